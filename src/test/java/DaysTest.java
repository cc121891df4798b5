/** Promises 12 to 20: days, and what is only thought. */
public final class DaysTest {
    public static void main(String[] args) {
        days();
        lastDay();
        weeksAndWages();
        wageByText();
        behind();
        thoughtBeyondTheLastDay();
        meets();
        sundays();
        trader();
        traderByHand();
        richest();
        brings();
        rated();
        fine();
        nothingChanges();
        Due.end();
    }

    private static void days() {
        BirthWeeks w = new BirthWeeks();
        Due.is("12: days(0)", w.days(0), Due.BAD);
        Due.is("12: days(-1)", w.days(-1), Due.BAD);
        Due.is("12: days(301)", w.days(301), Due.BAD);
        Due.is("12: THE DAY", w.count(1), 0);
        Due.is("12: without DISTRICTS", w.days(300), 0);
        Due.is("12: THE DAY", w.count(1), 300);
        Due.is("12: z stays without DISTRICTS", w.count(9), 1);
        w.district(5, 1);
        w.district(0, 9);
        w.days(1);
        int z = 1;
        z = z * 1103515245 + 12345;
        z = z * 1103515245 + 12345;
        Due.is("12: EVEN draws, too", w.told(1, 5), (z >>> 8) % 10);
        Due.is("12: z", w.count(9), z);
        Due.is("12: RENT", w.told(0, 7), -2);
        Due.is("12: PLACE", w.told(0, 4), 1);
    }

    private static void lastDay() {
        BirthWeeks w = new BirthWeeks();
        for (int i = 0; i < 333; i++) {
            w.days(300);
        }
        Due.is("12: THE DAY", w.count(1), 99900);
        w.district(5, 0);
        w.set(0, 2, 60);
        Due.is("12: up to 99999", w.days(300), 1 + (99 - 60) / 2);
        Due.is("12: THE DAY", w.count(1), 99999);
        int z = w.count(9);
        Due.is("12: no more", w.days(1), 0);
        Due.is("12: THE DAY stays", w.count(1), 99999);
        Due.is("12: z stays", w.count(9), z);
        Due.is("12: BAD still", w.days(0), Due.BAD);
    }

    private static void weeksAndWages() {
        BirthWeeks w = new BirthWeeks();
        w.district(5, 0);
        w.district(5, 9);
        w.district(5, 1);
        Due.is("12: seven days", w.days(7), 3);
        Due.is("12: two at least", w.told(0, 3), 2);
        Due.is("12: 60 at most", w.told(1, 3), 60);
        Due.is("12: as many as born", w.told(2, 3), 7);
        Due.is("12: WEEK", w.told(0, 2), 1);
        Due.is("12: PLACE", w.told(0, 4), 0);
        Due.is("12: BORN", w.told(1, 5), 0);
        Due.is("12: WAGE less RENTS", w.told(1, 7), 20 - 14);
        w.rule(0, 999);
        w.rule(1, 99);
        Due.is("12: a short week", w.days(2), 1);
        Due.is("12: by the new rule", w.told(0, 7), 6 + 999 - 198);
        Due.is("12: rents alone", w.told(1, 7), 6 - 198);
    }

    private static void wageByText() {
        BirthWeeks w = new BirthWeeks();
        w.district(5, 2);
        Due.text(w, "wage 1000 * w + l");
        w.rule(1, 0);
        w.days(7);
        Due.is("12: LONG and WEEK as they were", w.told(0, 7), 7);
        w.days(14);
        Due.is("12: the second week", w.told(0, 7), 7 + 1014);
        Due.text(w, "wage 9999 * 2");
        int longer = w.told(0, 3);
        w.days(longer);
        Due.is("12: 9999 at most", w.told(0, 7), 7 + 1014 + 9999);
        Due.text(w, "wage 0 - 5");
        w.days(w.told(0, 3));
        Due.is("12: 0 at least", w.told(0, 7), 7 + 1014 + 9999);
    }

    private static void behind() {
        BirthWeeks w = new BirthWeeks();
        w.seed(77);
        w.deal(6);
        w.days(11);
        w.hide(1);
        Due.text(w, "birth x + p / 3");
        int[] what = {2, 3, 4, 5, 7};
        int[] spans = {0, 1, 13, 300};
        int[][][] thought = new int[spans.length][6][what.length];
        for (int s = 0; s < spans.length; s++) {
            for (int i = 0; i < 6; i++) {
                for (int k = 0; k < what.length; k++) {
                    thought[s][i][k] = w.behind(i, spans[s], k);
                }
            }
        }
        int gone = 0;
        for (int s = 0; s < spans.length; s++) {
            if (spans[s] > gone) {
                w.days(spans[s] - gone);
                gone = spans[s];
            }
            for (int i = 0; i < 6; i++) {
                for (int k = 0; k < what.length; k++) {
                    Due.is("13: behind " + spans[s] + " of " + i, thought[s][i][k], w.told(i, what[k]));
                }
            }
        }
        Due.is("13: behind(0, -1, 0)", w.behind(0, -1, 0), Due.BAD);
        Due.is("13: behind(0, 301, 0)", w.behind(0, 301, 0), Due.BAD);
        Due.is("13: behind(0, 1, 5)", w.behind(0, 1, 5), Due.BAD);
        Due.is("13: behind(0, 1, -1)", w.behind(0, 1, -1), Due.BAD);
        Due.is("13: behind(6, 1, 0)", w.behind(6, 1, 0), Due.BAD);
        Due.is("13: behind(-1, 1, 0)", w.behind(-1, 1, 0), Due.BAD);
    }

    private static void thoughtBeyondTheLastDay() {
        BirthWeeks w = new BirthWeeks();
        for (int i = 0; i < 334; i++) {
            w.days(300);
        }
        w.district(5, 1);
        Due.is("13: without the bound of THE DAY", w.behind(0, 10, 2), 3);
        Due.is("14: without the bound of THE DAY", w.meets(0, 0), 2);
        Due.is("15: without the bound of THE DAY", w.sundays(0, 14), 2);
        Due.is("16: without the bound of THE DAY", w.trader(0, 14), 2);
        Due.is("17: without the bound of THE DAY", w.richest(14), 0);
    }

    private static void meets() {
        BirthWeeks w = new BirthWeeks();
        w.district(5, 1);
        w.district(5, 1);
        Due.is("14: both on 2", w.meets(0, 1), 2);
        Due.is("14: one told twice", w.meets(1, 1), 2);
        w.days(2);
        Due.is("14: at once", w.meets(0, 1), 0);
        w.rule(2, 59);
        Due.is("14: never", w.meets(0, 1), Due.NONE);
        Due.is("14: meets(0, 2)", w.meets(0, 2), Due.BAD);
        Due.is("14: meets(2, 0)", w.meets(2, 0), Due.BAD);
        Due.is("14: meets(-1, 0)", w.meets(-1, 0), Due.BAD);
        meetsAtTheBound();
    }

    private static void meetsAtTheBound() {
        BirthWeeks w = new BirthWeeks();
        w.rule(2, 0);
        // EVEN ones of RATE 1 keep their LONG: weeks of 25 and of 9 meet once in 225 days
        w.district(5, 1);
        w.set(0, 2, 25);
        w.days(18);
        w.district(5, 1);
        w.set(1, 2, 9);
        w.days(6);
        Due.is("14: 201 days ahead", w.meets(0, 1), Due.NONE);
        w.days(1);
        Due.is("14: 200 days ahead", w.meets(0, 1), 200);
        w.days(1);
        Due.is("14: 199 days ahead", w.meets(1, 0), 199);
    }

    private static void sundays() {
        BirthWeeks w = new BirthWeeks();
        w.district(5, 1);
        Due.is("15: not today", w.sundays(0, 0), 0);
        Due.is("15: six days", w.sundays(0, 6), 0);
        Due.is("15: seven days", w.sundays(0, 7), 1);
        Due.is("15: 300 days", w.sundays(0, 300), 42);
        w.set(0, 1, 0);
        Due.is("15: weeks of two", w.sundays(0, 300), 1 + 293 / 2);
        Due.is("15: sundays(0, -1)", w.sundays(0, -1), Due.BAD);
        Due.is("15: sundays(0, 301)", w.sundays(0, 301), Due.BAD);
        Due.is("15: sundays(1, 1)", w.sundays(1, 1), Due.BAD);
        Due.is("15: sundays(-1, 1)", w.sundays(-1, 1), Due.BAD);
    }

    private static void trader() {
        BirthWeeks w = new BirthWeeks();
        Due.is("16: no DISTRICTS", w.trader(0, 1), Due.BAD);
        w.seed(4242);
        w.deal(6);
        w.days(20);
        boolean[][] fair = new boolean[8][6];
        for (int day = 0; day < fair.length; day++) {
            for (int i = 0; i < 6; i++) {
                fair[day][i] = w.behind(i, day, 2) == 2;
            }
        }
        for (int from = 0; from < 6; from++) {
            Due.is("16: from " + from, w.trader(from, 7), allWays(fair, from, 7));
        }
        Due.is("16: trader(0, -1)", w.trader(0, -1), Due.BAD);
        Due.is("16: trader(0, 101)", w.trader(0, 101), Due.BAD);
        Due.is("16: trader(6, 1)", w.trader(6, 1), Due.BAD);
        Due.is("16: trader(-1, 1)", w.trader(-1, 1), Due.BAD);
    }

    private static void traderByHand() {
        BirthWeeks w = new BirthWeeks();
        w.district(5, 1);
        w.district(5, 1);
        w.days(1);
        w.district(5, 1);
        // PLACES 1 1 0, the fair on 2: in 0 and 1 behind 1, 8, 15 ..; in 2 behind 2, 9, 16 ..
        Due.is("16: not now", w.trader(0, 0), 0);
        Due.is("16: one day", w.trader(0, 1), 1);
        Due.is("16: a step each day", w.trader(0, 2), 2);
        Due.is("16: one step", w.trader(1, 2), 2);
        Due.is("16: both fairs each week", w.trader(0, 100), 30);
        w.set(1, 2, 2);
        Due.is("16: too far off", w.trader(0, 2), 1);
        Due.is("16: near enough from there", w.trader(1, 2), 1);
        traderEndsAnywhere();
        w.days(1);
        Due.is("16: a fair now counts", w.trader(0, 0), 1);
        Due.is("16: a fair now counts", w.trader(2, 0), 0);
    }

    private static void traderEndsAnywhere() {
        for (int best = 0; best < 4; best++) {
            BirthWeeks w = new BirthWeeks();
            for (int i = 0; i < 4; i++) {
                w.district(5, 1);
                w.set(i, 2, i == best ? 7 : 2);
            }
            Due.is("16: the only fair is in " + best, w.trader(best, 2), 1);
            Due.is("16: the only fair is in " + best, w.trader(best == 3 ? 2 : best + 1, 2), 1);
        }
    }

    /** Every way that a trader can go, one by one. */
    private static int allWays(boolean[][] fair, int from, int n) {
        int best = 0;
        int ways = (int) Math.round(Math.pow(3, n));
        for (int way = 0; way < ways; way++) {
            int at = from;
            int found = fair[0][at] ? 1 : 0;
            int left = way;
            boolean possible = true;
            for (int day = 1; day <= n && possible; day++) {
                at += left % 3 - 1;
                left /= 3;
                possible = at >= 0 && at < 6;
                found += possible && fair[day][at] ? 1 : 0;
            }
            best = possible ? Math.max(best, found) : best;
        }
        return best;
    }

    private static void richest() {
        BirthWeeks w = new BirthWeeks();
        Due.is("17: no DISTRICTS", w.richest(0), Due.NONE);
        Due.is("17: BAD ahead of NONE", w.richest(301), Due.BAD);
        Due.is("17: BAD ahead of NONE", w.richest(-1), Due.BAD);
        w.district(5, 9);
        w.district(5, 0);
        w.district(5, 0);
        Due.is("17: of several the least", w.richest(0), 0);
        Due.is("17: who has more weeks", w.richest(9), 1);
        w.set(2, 3, 100);
        Due.is("17: who has most now", w.richest(0), 2);
        w.set(0, 3, -5);
        w.set(1, 3, -4);
        w.set(2, 3, -6);
        Due.is("17: below 0", w.richest(0), 1);
    }

    private static void brings() {
        BirthWeeks w = new BirthWeeks();
        w.district(5, 1);
        Due.is("18: BORN is 0", w.brings(0, 10), Due.NO);
        Due.is("18: BAD ahead of NO", w.brings(0, 301), Due.BAD);
        Due.is("18: BAD ahead of NO", w.brings(0, -1), Due.BAD);
        Due.is("18: brings(1, 1)", w.brings(1, 1), Due.BAD);
        Due.is("18: brings(-1, 1)", w.brings(-1, 1), Due.BAD);
        w.days(1);
        Due.is("18: nothing at once", w.brings(0, 0), 0);
        // weeks of 6 and 7, not of 7 and 7: a wage one day sooner
        Due.is("18: a wage sooner", w.brings(0, 12), 20);
        Due.is("18: caught up with", w.brings(0, 13), 0);
        BirthWeeks v = new BirthWeeks();
        v.district(5, 1);
        v.days(1);
        v.hide(0);
        int[] ns = {5, 12, 50, 123, 300};
        for (int n : ns) {
            Due.is("18: as by hiding, " + n, w.brings(0, n), v.behind(0, n, 4) - w.behind(0, n, 4));
        }
    }

    private static void rated() {
        BirthWeeks w = new BirthWeeks();
        w.district(5, 3);
        w.district(2, 4);
        w.days(3);
        Due.is("19: NOTHING", w.rated(0, 0, 0), Due.NOTHING);
        Due.is("19: BAD ahead of NOTHING", w.rated(0, 2, 0), Due.BAD);
        Due.is("19: BAD ahead of NOTHING", w.rated(0, 0, 2), Due.BAD);
        Due.is("19: rated(0, 0, -1)", w.rated(0, 0, -1), Due.BAD);
        Due.is("19: rated(4, 0, 0)", w.rated(4, 0, 0), Due.BAD);
        Due.is("19: rated(-1, 0, 0)", w.rated(-1, 0, 0), Due.BAD);
        Due.is("19: rated(0, -1, 0)", w.rated(0, -1, 0), Due.BAD);
        w.sheet(0, 0, 0);
        Due.is("19: no places, the least RATE", w.rated(0, 1, 0), 0);
        Due.is("19: no places, no differences", w.rated(0, 1, 1), 0);
        sixWeeksAlone();
        int none = Due.NONE;
        ratedByTrying(0, "", 1, 5, none, none, none, none, -3);
        ratedByTrying(1, "", 1, 5, none, none, none, none, -3);
        ratedByTrying(0, "", 0, 7, 30, 20, 60, 15, 44);
        ratedByTrying(1, "", 0, 7, 30, 20, 60, 15, 44);
        ratedByTrying(1, "birth x * 2 - (p > 20)", 0, 7, 30, 20, 60, 15, 44);
        ratedByTrying(1, "", 1, none, 12, none, 35);
        ratedByTrying(1, "", 0, 7);
        ratedByTrying(0, "", 0, 7, 60);
        ratedByTrying(0, "birth 9", 0, 7, 48);
    }

    private static void sixWeeksAlone() {
        BirthWeeks v = new BirthWeeks();
        v.district(5, 3);
        v.set(0, 2, 60);
        v.sheet(0, 0, 2);
        v.mark(0, 0, 60);
        v.mark(0, 1, 2);
        Due.is("19: a whole week of 60", v.rated(0, 0, 1), 0);
        BirthWeeks w = new BirthWeeks();
        w.district(2, 4);
        w.sheet(0, 1, 8);
        w.mark(0, 6, 99999);
        w.mark(0, 7, -99999);
        for (int k = 0; k < 6; k++) {
            w.mark(0, k, Due.NONE);
        }
        Due.is("19: no numbers, the least RATE", w.rated(0, 0, 0), 0);
        Due.is("19: no numbers, and k 6 does not count", w.rated(0, 0, 1), 0);
    }

    /** Sets each rate in turn and lets days go by in thought. */
    private static void ratedByTrying(int district, String law, int sort, int... places) {
        BirthWeeks w = new BirthWeeks();
        w.district(5, 3);
        w.district(2, 4);
        w.days(3);
        if (!law.isEmpty()) {
            Due.text(w, law);
        }
        w.sheet(0, sort, places.length);
        for (int k = 0; k < places.length; k++) {
            w.mark(0, k, places[k]);
        }
        int gotRate = w.rated(0, district, 0);
        int gotLeast = w.rated(0, district, 1);
        int best = 0;
        int least = Integer.MAX_VALUE;
        for (int rate = 0; rate < 10; rate++) {
            w.set(district, 1, rate);
            int together = 0;
            int day = 0;
            for (int k = 0; k < places.length; k++) {
                int length = w.behind(district, day, 1);
                together += places[k] == Due.NONE ? 0 : Math.abs(places[k] - length);
                day += length - w.behind(district, day, 2);
            }
            if (together < least) {
                least = together;
                best = rate;
            }
        }
        Due.is("19: RATE by trying", gotRate, best);
        Due.is("19: differences by trying", gotLeast, least);
    }

    private static void fine() {
        BirthWeeks w = new BirthWeeks();
        Due.is("20: without a TEXT", w.fine(), 0);
        w.district(5, 4);
        w.district(5, 3);
        w.days(3);
        Due.text(w, "fine d * 100 + b");
        Due.is("20: THE DAY and BORN of all", w.fine(), 321);
        w.hide(0);
        Due.is("20: BORN alone", w.fine(), 320);
        Due.text(w, "fine 0 - 9999 * 9999 * 9999");
        Due.is("20: not held", w.fine(), -(9999 * 9999 * 9999));
    }

    private static void nothingChanges() {
        BirthWeeks w = new BirthWeeks();
        w.seed(31);
        w.deal(5);
        w.days(17);
        w.sheet(0, 0, 6);
        w.mark(0, 0, 3);
        String ahead = Due.state(w);
        for (int i = 0; i < 5; i++) {
            w.behind(i, 40, 4);
            w.meets(i, 4 - i);
            w.sundays(i, 40);
            w.trader(i, 40);
            w.richest(40);
            w.brings(i, 40);
            w.rated(0, i, 0);
            w.reads(0, i);
            w.fine();
        }
        Due.holds("13 to 20: only thought", ahead.equals(Due.state(w)));
    }
}
