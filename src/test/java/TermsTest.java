/** The sentences of the document's "Terms" that name a boundary, each with a run of its own. */
public final class TermsTest {
    private static final int[] BORN = {0, 1, 2, 3, 59, 60, 61, 63};
    private static final int[] LONG = {2, 2, 2, 3, 59, 60, 60, 60};

    public static void main(String[] args) {
        numbers();
        districts();
        births();
        worths();
        fairs();
        aDay();
        weeksEnd();
        draws();
        onlyThought();
        trader();
        rated();
        textsAndTape();
        names();
        words();
        faults();
        openOnes();
        workedOut();
        sheetsAndSlots();
        image();
        Due.end();
    }

    /** A sentence of the document and the run on a new object that would go otherwise if it were broken. */
    private static void sentence(String words, String... rows) {
        new Script(words, rows);
    }

    private static void numbers() {
        sentence("An object is used for at most 512 calls", "district(5, 1) = 0", "510 x days(1)", "count(1) = 510");
        sentence("/ cuts towards 0",
                "'fine 7/2' = 0", "fine() = 3", "'fine (0-7)/2' = 1", "fine() = -3", "'fine 7/(0-2)' = 2", "fine() = -3",
                "'fine (0-7)/(0-2)' = 3", "fine() = 3", "'fine (0-1)/2' = 4", "fine() = 0");
    }

    private static void districts() {
        sentence("DISTRICTS, 6 at most, numbered from 0",
                "district(0, 1) = 0", "district(1, 1) = 1", "district(2, 1) = 2", "district(3, 1) = 3", "district(4, 1) = 4",
                "district(5, 1) = 5", "district(0, 1) = FULL", "count(0) = 6", "told(5, 0) = 5", "told(6, 0) = BAD");
        sentence("RATE 0 .. 9",
                "district(0, 0) = 0", "told(0, 1) = 0", "district(0, 9) = 1", "told(1, 1) = 9", "district(0, -1) = BAD",
                "district(0, 10) = BAD", "count(0) = 2");
        sentence("WEEK (0 at first)", "district(5, 0) = 0", "told(0, 2) = 0", "days(6) = 0", "told(0, 2) = 0", "days(1) = 1",
                "told(0, 2) = 1");
        sentence("LONG 2 .. 60 (days of this week; 7 at first)",
                "district(5, 0) = 0", "told(0, 3) = 7", "days(6) = 0", "days(1) = 1", "set(0, 2, 60) = 2", "days(59) = 0",
                "days(1) = 1", "told(0, 3) = 2", "days(1) = 0", "days(1) = 1", "set(0, 2, 1) = BAD", "set(0, 2, 61) = BAD",
                "told(0, 3) = 2");
        sentence("PLACE 0 .. LONG less 1 (the day of it; 0)",
                "district(5, 1) = 0", "told(0, 4) = 0", "days(6) = 0", "told(0, 4) = 6", "days(1) = 1", "told(0, 4) = 0",
                "set(0, 2, 2) = 7", "days(1) = 0", "told(0, 4) = 1", "days(1) = 1", "told(0, 4) = 0");
        sentence("BORN (0), HIDDEN (0), PURSE (0; below 0, too)",
                "district(5, 9) = 0", "told(0, 5) = 0", "told(0, 6) = 0", "told(0, 7) = 0", "days(1) = 0", "told(0, 7) = -2",
                "count(5) = -2", "rule(1, 99) = 2", "days(6) = 1", "told(0, 7) = -576");
        String[] above = {"0", "01", "02", "013", "024", "05"};
        for (int kind = 0; kind < 6; kind++) {
            Script s = new Script("KINDS under one another (all are DISTRICTS)", "district(" + kind + ", 7) = 0");
            for (int of = 0; of < 6; of++) {
                s.run("as(0, " + of + ") = " + (above[kind].indexOf('0' + of) >= 0 ? "7" : "KIND"));
            }
        }
        sentence("WAGE 0 .. 999 (20 at first)",
                "count(2) = 20", "district(5, 0) = 0", "rule(1, 0) = 2", "days(7) = 1", "told(0, 7) = 20", "rule(0, 0) = 20",
                "days(2) = 1", "told(0, 7) = 20", "rule(0, 999) = 0", "days(2) = 1", "told(0, 7) = 1019",
                "rule(0, 1000) = BAD", "rule(0, -1) = BAD", "count(2) = 999");
        sentence("RENT 0 .. 99 (2)",
                "count(3) = 2", "district(5, 9) = 0", "days(1) = 0", "told(0, 7) = -2", "rule(1, 0) = 2", "days(1) = 0",
                "told(0, 7) = -2", "rule(1, 99) = 0", "days(1) = 0", "told(0, 7) = -101", "rule(1, 100) = BAD",
                "rule(1, -1) = BAD", "count(3) = 99");
        sentence("FAIR 0 .. 59 (2)",
                "count(4) = 2", "rule(2, 0) = 2", "rule(2, 59) = 0", "rule(2, 60) = BAD", "rule(2, -1) = BAD", "count(4) = 59");
        sentence("THE DAY is 0 at first, 99999 at most",
                "count(1) = 0", "333 x days(300) = 0", "count(1) = 99900", "days(98) = 0", "count(1) = 99998", "days(1) = 0",
                "count(1) = 99999", "days(1) = 0", "count(1) = 99999");
    }

    private static void births() {
        sentence("DISTRICT: what birth gives, held within 0 .. 30",
                "district(0, 3) = 0", "'birth 28+x' = 0", "births(0, 1) = 29", "births(0, 2) = 30", "births(0, 3) = 30",
                "'birth x-2' = 1", "births(0, 3) = 1", "births(0, 2) = 0", "births(0, 1) = 0", "'birth 9999*9999' = 2",
                "births(0, 0) = 30", "'birth 0-9999*9999' = 3", "births(0, 9) = 0");
        sentence("(without a TEXT: x)", "district(0, 3) = 0", "births(0, 0) = 0", "births(0, 9) = 9");
        sentence("QUIET: half (cut) of as DISTRICT",
                "district(1, 3) = 0", "births(0, 0) = 0", "births(0, 1) = 0", "births(0, 2) = 1", "births(0, 8) = 4",
                "births(0, 9) = 4", "'birth 62' = 0", "births(0, 0) = 15", "'birth 0-9' = 1", "births(0, 0) = 0");
        sentence("SILENT: as QUIET, but 0 if PLACE is 0",
                "district(3, 3) = 0", "births(0, 9) = 0", "days(1) = 0", "births(0, 9) = 4", "days(5) = 0", "told(0, 4) = 6",
                "births(0, 9) = 4", "days(1) = 1", "births(0, 9) = 0");
        sentence("FERTILE: as DISTRICT, and 1",
                "district(2, 3) = 0", "births(0, 0) = 1", "births(0, 9) = 10", "'birth 31' = 0", "births(0, 0) = 31",
                "'birth 0-1' = 1", "births(0, 0) = 1");
        sentence("FEAST: as FERTILE, twice that if PLACE is LONG less 1",
                "district(4, 3) = 0", "set(0, 2, 3) = 7", "births(0, 9) = 10", "days(1) = 0", "births(0, 9) = 10", "days(1) = 0",
                "births(0, 9) = 20", "births(0, 0) = 2", "'birth 99' = 0", "births(0, 0) = 62", "set(0, 2, 2) = 3",
                "births(0, 0) = 31", "days(1) = 0", "births(0, 0) = 62");
        sentence("EVEN: RATE",
                "district(5, 0) = 0", "district(5, 9) = 1", "births(0, 9) = 0", "births(1, 0) = 9", "'birth 30' = 0",
                "births(0, 9) = 0", "births(1, 0) = 9");
    }

    private static void worths() {
        int[][] due = {{0, 9}, {2, 11}, {30, 21}, {4, 22}, {26, 17}, {11, 11}};
        for (int kind = 0; kind < 6; kind++) {
            sentence("WORTH of KIND " + kind + ", RATE 0 and 9",
                    "district(" + kind + ", 0) = 0", "district(" + kind + ", 9) = 1",
                    "told(0, 8) = " + due[kind][0], "told(1, 8) = " + due[kind][1]);
        }
    }

    private static void fairs() {
        sentence("A FAIR is where PLACE is FAIR: the first day of a week",
                "district(5, 1) = 0", "rule(2, 0) = 2", "told(0, 9) = 1", "days(1) = 0", "told(0, 9) = 0", "days(6) = 1",
                "told(0, 9) = 1");
        sentence("A FAIR is where PLACE is FAIR: the last day of the longest week",
                "district(5, 1) = 0", "rule(2, 59) = 2", "set(0, 2, 60) = 7", "days(58) = 0", "told(0, 9) = 0", "days(1) = 0",
                "told(0, 9) = 1", "days(1) = 1", "told(0, 9) = 0");
        sentence("A FAIR is where PLACE is FAIR: never in a week that is too short",
                "district(5, 1) = 0", "rule(2, 7) = 2", "meets(0, 0) = NONE", "days(6) = 0", "told(0, 9) = 0", "days(1) = 1",
                "told(0, 9) = 0", "rule(2, 6) = 7", "days(6) = 0", "told(0, 9) = 1");
    }

    private static void aDay() {
        sentence("of each DISTRICT, by numbers: a draw; x is its rest by (RATE and 1)",
                "district(0, 9) = 0", "district(0, 9) = 1", "district(0, 0) = 2", "district(0, 6) = 3", "days(1) = 0",
                "told(0, 5) = 4", "told(1, 5) = 2", "told(2, 5) = 0", "told(3, 5) = 2", "count(9) = -999580867");
        sentence("(a draw of an EVEN one, too)",
                "district(5, 9) = 0", "district(0, 9) = 1", "days(1) = 0", "told(0, 5) = 9", "told(1, 5) = 2",
                "count(9) = -1770082073");
        sentence("BORN is BIRTHS more", "district(5, 9) = 0", "days(1) = 0", "told(0, 5) = 9", "days(5) = 0", "told(0, 5) = 54");
        sentence("PURSE is RENT less; PLACE is 1 more",
                "district(5, 9) = 0", "days(6) = 0", "told(0, 7) = -12", "told(0, 4) = 6", "days(1) = 1", "told(0, 7) = 6");
        sentence("what wage gives more, that held within 0 .. 9999",
                "district(5, 1) = 0", "rule(1, 0) = 2", "'wage 0-1' = 0", "days(7) = 1", "told(0, 7) = 0",
                "'wage 0' = 1", "days(7) = 1", "told(0, 7) = 0", "'wage 1' = 2", "days(7) = 1", "told(0, 7) = 1",
                "'wage 9998' = 3", "days(7) = 1", "told(0, 7) = 9999", "'wage 9999' = 4", "days(7) = 1", "told(0, 7) = 19998",
                "'wage 9999+1' = 5", "days(7) = 1", "told(0, 7) = 29997", "'wage 9999*9999' = 6", "days(7) = 1",
                "told(0, 7) = 39996");
        sentence("of wage l LONG, w WEEK, as they are ahead of the next week",
                "district(5, 2) = 0", "rule(1, 0) = 2", "'wage l+100*w' = 0", "days(7) = 1", "told(0, 7) = 7", "days(14) = 1",
                "told(0, 7) = 121");
        sentence("(without a TEXT: WAGE)", "district(5, 1) = 0", "days(6) = 0", "told(0, 7) = -12", "days(1) = 1", "told(0, 7) = 6");
        sentence("Then THE DAY is 1 more", "days(1) = 0", "count(1) = 1", "district(5, 1) = 0", "days(2) = 0", "count(1) = 3");
    }

    private static void weeksEnd() {
        for (int i = 0; i < BORN.length; i++) {
            boolean small = BORN[i] < 4;
            int days = small ? 3 : 7;
            int hidden = (small ? 3 : 63) - BORN[i];
            Script s = new Script("LONG becomes BORN (2 at least, 60 at most): " + BORN[i],
                    small ? "district(5, 1) = 0" : "district(5, 9) = 0", "set(0, 2, " + days + ") = 7");
            // the last day's birth can't be hidden any more, so what is born by then is held down by RATE 0
            s.run("days(" + (days - 1) + ") = 0");
            if (small && hidden == 3) {
                s.run("set(0, 1, 0) = 1");
                hidden = 2;
            }
            for (int h = 1; h <= hidden; h++) {
                s.run("hide(0) = " + h);
            }
            s.run("days(1) = 1", "told(0, 3) = " + LONG[i], "told(0, 5) = " + hidden);
        }
        sentence("WEEK is 1 more", "district(5, 0) = 0", "days(7) = 1", "told(0, 2) = 1", "days(1) = 0", "told(0, 2) = 1",
                "days(1) = 1", "told(0, 2) = 2");
        sentence("BORN becomes HIDDEN, HIDDEN 0, PLACE 0",
                "district(5, 1) = 0", "days(6) = 0", "hide(0) = 1", "hide(0) = 2", "days(1) = 1", "told(0, 5) = 2",
                "told(0, 6) = 0", "told(0, 4) = 0", "told(0, 3) = 5", "days(5) = 1", "told(0, 3) = 7", "told(0, 5) = 0");
        sentence("HIDING a birth: BORN is 1 less, HIDDEN 1 more, if BORN is above 0",
                "district(5, 1) = 0", "hide(0) = NO", "days(1) = 0", "hide(0) = 1", "told(0, 5) = 0", "told(0, 6) = 1",
                "hide(0) = NO", "told(0, 5) = 0", "told(0, 6) = 1");
    }

    private static void draws() {
        sentence("z is told (1 at first)", "count(9) = 1", "seed(8) = 1");
        sentence("z becomes z * 1103515245 + 12345 (an int); it gives z >>> 8: of z below 0",
                "seed(-1)", "district(0, 9) = 0", "days(1) = 0", "told(0, 5) = 7", "count(9) = -1103502900");
        sentence("z becomes z * 1103515245 + 12345 (an int): of the least z",
                "seed(MIN)", "district(0, 9) = 0", "days(1) = 0", "told(0, 5) = 6", "count(9) = -2147471303");
        sentence("z becomes z * 1103515245 + 12345 (an int): of the greatest z",
                "seed(MAX)", "district(0, 9) = 0", "days(1) = 0", "told(0, 5) = 9", "count(9) = 1043980748");
        sentence("KIND the rest of a draw by 6, RATE that of one more by 10",
                "deal(6) = 6", "told(0, 0) = 2", "told(0, 1) = 2", "told(1, 0) = 0", "told(1, 1) = 3", "told(2, 0) = 1",
                "told(2, 1) = 6", "told(3, 0) = 4", "told(3, 1) = 6", "told(4, 0) = 4", "told(4, 1) = 9", "told(5, 0) = 0",
                "told(5, 1) = 6", "count(9) = 836760821");
    }

    private static void onlyThought() {
        sentence("without the bound of THE DAY",
                "333 x days(300)", "days(98)", "district(5, 1) = 0", "days(1) = 0", "count(1) = 99999", "behind(0, 300, 0) = 43",
                "behind(0, 300, 2) = 0", "meets(0, 0) = 1", "sundays(0, 300) = 43", "trader(0, 100) = 15",
                "brings(0, 12) = 20", "district(5, 0) = 1", "richest(300) = 1", "sheet(0, 0, 2) = 2", "mark(0, 0, 7) = 1",
                "mark(0, 1, 21) = 1", "rated(0, 0, 0) = 3", "rated(0, 0, 1) = 2", "mark(0, 0, 1) = 1", "mark(0, 1, 2) = 1",
                "reads(0, 0) = NONE", "count(1) = 99999");
        sentence("from now on, z as it is",
                "district(0, 9) = 0", "behind(0, 1, 3) = 4", "behind(0, 1, 3) = 4", "seed(-1) = 1", "behind(0, 1, 3) = 7",
                "count(9) = -1");
        sentence("MEETS of two: behind how many DAYS (0 .. 200) there is a FAIR in both first",
                "rule(2, 0) = 2", "district(5, 1) = 0", "district(5, 1) = 1", "set(0, 2, 25) = 7", "set(1, 2, 9) = 7",
                "meets(0, 1) = 0", "days(24) = 2", "meets(0, 1) = NONE", "days(1) = 1", "meets(0, 1) = 200", "days(1) = 0",
                "meets(1, 0) = 199");
        sentence("behind how many of them (1 .. n) its PLACE is 0",
                "district(5, 1) = 0", "told(0, 4) = 0", "sundays(0, 0) = 0", "sundays(0, 6) = 0", "sundays(0, 7) = 1",
                "sundays(0, 13) = 1", "sundays(0, 14) = 2", "days(6) = 0", "sundays(0, 0) = 0", "sundays(0, 1) = 1");
        sentence("the DISTRICT with the greatest PURSE; of several the least",
                "district(5, 1) = 0", "district(5, 1) = 1", "district(5, 1) = 2", "richest(0) = 0", "set(2, 3, 1) = 0",
                "richest(0) = 2", "set(1, 3, 1) = 0", "richest(0) = 1", "set(0, 3, -1) = 0", "set(1, 3, -2) = 1",
                "set(2, 3, -3) = 1", "richest(0) = 0", "richest(300) = 0");
        sentence("its PURSE behind n DAYS, if one birth were HIDDEN now, less as it is",
                "district(5, 1) = 0", "days(1) = 0", "brings(0, 0) = 0", "brings(0, 11) = 0", "brings(0, 12) = 20",
                "brings(0, 13) = 0", "told(0, 5) = 1", "told(0, 6) = 0");
    }

    private static void trader() {
        sentence("(behind 0 .. n of them)",
                "district(5, 1) = 0", "days(2) = 0", "trader(0, 0) = 1", "trader(0, 6) = 1", "trader(0, 7) = 2", "days(1) = 0",
                "trader(0, 0) = 0", "trader(0, 5) = 0", "trader(0, 6) = 1");
        sentence("from day to day stays, or comes to the DISTRICT with the next greater number",
                "rule(2, 59) = 2", "6 x district(5, 1)", "set(5, 2, 60) = 7", "days(54)", "trader(0, 4) = 0", "trader(0, 5) = 1",
                "days(1)", "trader(0, 63) = 0", "trader(0, 64) = 1", "trader(1, 4) = 1", "trader(1, 63) = 1", "trader(1, 64) = 2",
                "days(4)", "trader(5, 0) = 1", "trader(4, 0) = 0", "trader(0, 0) = 0");
        sentence("or comes to the DISTRICT with the next lesser number",
                "rule(2, 59) = 2", "6 x district(5, 1)", "set(0, 2, 60) = 7", "days(54)", "trader(5, 4) = 0", "trader(5, 5) = 1",
                "days(1)", "trader(5, 63) = 0", "trader(5, 64) = 1", "trader(4, 4) = 1", "trader(4, 64) = 2");
        sentence("the most DAYS on which there can be a FAIR where one is",
                "district(5, 1) = 0", "days(1) = 0", "district(5, 1) = 1", "trader(0, 1) = 1", "trader(0, 2) = 2", "trader(1, 1) = 1",
                "trader(1, 2) = 2", "trader(0, 9) = 4");
    }

    private static void rated() {
        sentence("places k, k 0 .. 5",
                "district(5, 1) = 0", "sheet(0, 1, 7) = 7", "mark(0, 0, NONE)", "mark(0, 1, NONE)",
                "mark(0, 2, NONE)", "mark(0, 3, NONE)", "mark(0, 4, NONE)", "mark(0, 6, NONE)", "mark(0, 5, 9)",
                "rated(0, 0, 0) = 1", "rated(0, 0, 1) = 2", "mark(0, 5, NONE)", "mark(0, 6, 9)", "rated(0, 0, 0) = 0",
                "rated(0, 0, 1) = 0", "mark(0, 0, 9)", "rated(0, 0, 1) = 2");
        sentence("LONG of its k-th week (this one is 0)",
                "district(5, 4) = 0", "set(0, 2, 5) = 7", "days(3) = 0", "sheet(0, 0, 1) = 1", "mark(0, 0, 5)", "rated(0, 0, 1) = 0",
                "sheet(0, 0, 2) = 2", "mark(0, 0, 5)", "mark(0, 1, 28)", "rated(0, 0, 0) = 8", "rated(0, 0, 1) = 0");
        sentence("LONG of its k-th week, behind a whole week of 60 days",
                "district(5, 3) = 0", "set(0, 2, 60) = 7", "sheet(0, 0, 2) = 2", "mark(0, 0, 60)", "mark(0, 1, 2)",
                "rated(0, 0, 0) = 0", "rated(0, 0, 1) = 0");
        sentence("the RATE 0 .. 9: the least of them, and the greatest",
                "district(5, 5) = 0", "days(2) = 0", "sheet(0, 0, 2) = 2", "mark(0, 0, 7)", "mark(0, 1, 10)", "rated(0, 0, 0) = 0",
                "rated(0, 0, 1) = 0", "mark(0, 1, 55)", "rated(0, 0, 0) = 9", "rated(0, 0, 1) = 0", "mark(0, 1, 60)",
                "rated(0, 0, 0) = 9", "rated(0, 0, 1) = 5");
        sentence("differ least (signs left out), together",
                "district(5, 9) = 0", "sheet(0, 1, 2) = 2", "mark(0, 0, 10)", "mark(0, 1, 5)", "rated(0, 0, 0) = 1",
                "rated(0, 0, 1) = 5", "mark(0, 0, -99999)", "mark(0, 1, 99999)", "rated(0, 0, 0) = 9", "rated(0, 0, 1) = 199945");
        sentence("of several the least",
                "district(5, 3) = 0", "sheet(0, 0, 2) = 2", "mark(0, 0, 7)", "mark(0, 1, 58)", "rated(0, 0, 0) = 8",
                "rated(0, 0, 1) = 2", "mark(0, 1, 59)", "rated(0, 0, 0) = 9", "rated(0, 0, 1) = 1", "sheet(0, 0, 0) = 0",
                "rated(0, 0, 0) = 0", "rated(0, 0, 1) = 0");
    }

    private static void textsAndTape() {
        sentence("TEXTS, 14 at most, numbered from 0",
                "count(6) = 0", "'fine 1' = 0", "12 x 'wage 1'", "'fine 2' = 13", "count(6) = 14", "'fine 3' = FULL",
                "count(6) = 14", "fine() = 2", "why(2) = 13", "textTold(13, 0) = 2", "textTold(14, 0) = BAD");
        sentence("THE TAPE (96 bytes at most)",
                "count(8) = 0", "7 x feed(0, 0, 0)", "feed(0, 0, 0) = 96", "feed(0, 0, 0) = FULL", "count(8) = 96");
        sentence("an act that reads it uses it up, whatever it answers",
                "<fine 1> = 6", "text() = 0", "count(8) = 0", "<fine> = 4", "text() = -104", "count(8) = 0", "text() = -100",
                "count(8) = 0", "13 x 'fine 1'", "<fine 1> = 6", "text() = FULL", "count(8) = 0");
        sentence("(without a TEXT: 0)", "fine() = 0", "days(5) = 0", "'wage 5' = 0", "'birth 5' = 1", "fine() = 0");
        sentence("Of a KEY that TEXT counts that was told last",
                "'fine 1' = 0", "fine() = 1", "'fine 2' = 1", "fine() = 2", "why(2) = 1", "'wage 3' = 2", "fine() = 2",
                "'fine 4 4' = -107", "fine() = 2", "why(2) = 1");
    }

    private static void names() {
        sentence("KEY: birth | wage | fine",
                "'birth 1' = 0", "'wage 1' = 1", "'fine 1' = 2", "'birt 1' = -100", "'births 1' = -100", "'fin 1' = -100",
                "'fines 1' = -100", "'wag 1' = -100", "'wages 1' = -100",
                "'xirth 1' = -100", "'birtx 1' = -100", "'xage 1' = -100", "'wagx 1' = -100", "'xine 1' = -100", "'finx 1' = -100", "'x' = -100", "'1' = -100", "'(fine 1)' = -100");
        sentence("PIECE: NUMBER (1 to 4 digits)",
                "'fine 0' = 0", "fine() = 0", "'fine 9' = 1", "fine() = 9", "'fine 9999' = 2", "fine() = 9999", "'fine 0000' = 3",
                "fine() = 0", "'fine 0010' = 4", "fine() = 10", "'fine 10000' = -105", "'fine 00000' = -105", "count(6) = 5");
        sentence("NAMES, each one letter: of birth x, l LONG, p PLACE",
                "district(0, 3) = 0", "set(0, 2, 13) = 7", "days(5) = 0", "'birth x' = 0", "births(0, 4) = 4", "'birth l' = 1",
                "births(0, 4) = 13", "'birth p' = 2", "births(0, 4) = 5", "'birth w' = -106", "'birth d' = -106",
                "'birth b' = -106", "'birth xl' = -106", "'birth a' = -106", "'birth z' = -106");
        sentence("of wage l LONG, w WEEK",
                "'wage l' = 0", "'wage w' = 1", "'wage x' = -105", "'wage p' = -105", "'wage d' = -105", "'wage b' = -105",
                "'wage ll' = -105");
        sentence("of fine d THE DAY, b BORN of all, together",
                "6 x district(5, 9)", "days(3) = 0", "'fine d' = 0", "fine() = 3", "'fine b' = 1", "fine() = 162",
                "hide(5) = 1", "fine() = 161", "'fine x' = -105", "'fine l' = -105", "'fine p' = -105", "'fine w' = -105",
                "'fine bd' = -105");
    }

    private static void words() {
        sentence("A word is a row of letters a .. z, as long as it goes",
                "'birthx' = -100", "'birth xx' = -106", "'birth xa' = -106", "'birth xz' = -106", "'fineA' = -104",
                "'fineZ' = -104", "'fine`' = -104", "'fine{' = -104");
        sentence("or of digits, as long as it goes",
                "'fine 09' = 0", "fine() = 9", "'fine 90' = 1", "fine() = 90", "'fine 1:' = -106", "'fine 1/' = -107");
        sentence("any other byte is a sign by itself",
                "'fine \u0000' = -105", "'fine 1\u0000' = -106", "'\u0000' = -100", "'fine \u0001' = -105", "'fine 1\u00ff' = -106", "'fine 1\u0080' = -106",
                "'fine 1\u00e1' = -106", "'fine 1\u00b1' = -106", "'fine 1++1' = -107", "'fine 1<>1' = -107", "'fine 1&&1' = -107");
        sentence("Between words and signs, and at the ends, there may be blanks (byte 32)",
                "'  fine  1  +  2  ' = 0", "fine() = 3", "'fine(1+2)' = 1", "fine() = 3", "'fine ! ( ! 3 ) ' = 2", "fine() = 1",
                "'fine\t1' = -104", "'fine 1\n' = -106", "'\u00a0fine 1' = -100", "'fine\u001f1' = -104", "'fine!1' = 3");
        sentence("a word right behind another one needs one",
                "'fine 1' = 0", "'fine1' = -104", "'birth5' = -105", "'wage1+l' = -104", "'fine 1d' = -106", "'fine d1' = -106");
    }

    private static void faults() {
        sentence("the first byte of the first word or sign with which no TEXT goes on",
                "'   5 fine' = -103", "'fine + + +' = -105", "'fine 1 2 3' = -107", "'fine 1 d' = -107", "'fine 1 (2)' = -107",
                "'fine 1 !2' = -107", "'fine 1)' = -106", "'fine (1))' = -108", "'fine ()' = -106", "'fine 1 ? 2' = -107",
                "'fine -1' = -105", "'fine fine' = -105", "'fine (1 2' = -108", "'fine 1 + ) ' = -109");
        sentence("TEST: SUM [ (< | = | >) SUM ]",
                "'fine 1<2' = 0", "'fine 1<2<3' = -108", "'fine 1=2>3' = -108", "'fine 1>2+3=4' = -110", "'fine (1<2<3)' = -109",
                "'fine (1<2)<3' = 1", "'fine 1<2&3<4|5<6' = 2");
        sentence("a NUMBER of more than 4 digits", "'fine 1234' = 0", "'fine 12345' = -105", "'fine 1+12345' = -107",
                "'fine 123456789012' = -105", "'fine 1+(2*99999' = -110");
        sentence("the end (the place behind the last byte), if it comes too soon",
                "'' = -100", "' ' = -101", "'fine' = -104", "'fine ' = -105", "'fine    ' = -108", "'fine 1+' = -107",
                "'fine 1+ ' = -108", "'fine !' = -106", "'fine (' = -106", "'fine (1' = -107", "'fine (1  ' = -109",
                "'fine 1<' = -107", "'fine 1&' = -107", "'fine 1|' = -107", "'fine 1*' = -107");
        String full = "fine " + "d+".repeat(45) + "1";
        sentence("a TEXT of all 96 bytes", "days(2) = 0", "'" + full + "' = 0", "fine() = 91", "textTold(0, 1) = 46",
                "'" + full.substring(0, 95) + "+' = -195", "'" + full.substring(0, 93) + "+++' = -193",
                "'fine " + "1+".repeat(45) + " ' = -196", "'" + " ".repeat(90) + "fine 7' = 1", "fine() = 7",
                "'" + " ".repeat(96) + "' = -196");
    }

    private static void openOnes() {
        String eight = "((((((((";
        String closed = "))))))))";
        sentence("the ninth ( that would be open within others (the outermost counted)",
                "'fine " + eight + "7" + closed + "' = 0", "fine() = 7", "'fine (" + eight + "7" + closed + ")' = -113",
                "'fine " + eight + "7" + closed + "+" + eight + "1" + closed + "' = 1", "fine() = 8",
                "'fine (((((((((7' = -113", "'fine ((((((((1)+((2' = -117", "'fine " + eight + "1)+(2" + closed + "' = 2", "fine() = 3");
        sentence("the ninth ! likewise",
                "'fine !!!!!!!!7' = 0", "fine() = 1", "'fine !!!!!!!!!7' = -113", "'fine !!!!!!!7' = 1", "fine() = 0");
        sentence("(open till its PIECE ends)",
                "'fine !!!!!!!!7+!!!!!!!!0' = 0", "fine() = 1", "'fine !!!!!!!!(7)*!!!!!!!!7' = 1", "fine() = 1",
                "'fine !!!!!!!!(1+!7)' = -116", "'fine !!!!!!!(1+!7+!7)' = 2", "'fine !!!!!!!(1+!!7)' = -116",
                "'fine !(!(!(!(!(!(!(!7)))))))' = 3", "'fine (!!!!!!!!7)+!7' = 4");
        sentence("each by itself",
                "'fine !!!!!!!!" + eight + "7" + closed + "' = 0", "fine() = 1", "'fine " + eight + "!!!!!!!!7" + closed + "' = 1",
                "fine() = 1", "'fine !(!(!(!(!(!(!(!(7))))))))' = 2", "fine() = 1", "'fine !(!(!(!(!(!(!(!((7)))))))))' = -121",
                "'fine !(!(!(!(!(!(!(!(!7))))))))' = -121");
    }

    private static void workedOut() {
        sentence("Ints wrap",
                "'fine 9999*9999*9999' = 0", "fine() = -1027349969", "'fine 32768*2' = -105", "'fine 2*1024*1024*1024' = 1",
                "fine() = -2147483648", "'fine 2*1024*1024*1024-1' = 2", "fine() = 2147483647",
                "'fine (2*1024*1024*1024-1)+1' = 3", "fine() = -2147483648", "'fine (2*1024*1024*1024)/(0-1)' = 4",
                "fine() = -2147483648");
        sentence("Ints wrap, ahead of what they are held within",
                "district(0, 3) = 0", "district(5, 1) = 1", "rule(1, 0) = 2", "'birth 2*1024*1024*1024' = 0", "births(0, 9) = 0",
                "'birth 2*1024*1024*1024-1' = 1", "births(0, 0) = 30", "'wage 2*1024*1024*1024' = 2", "days(7) = 2",
                "told(1, 7) = 0", "'wage 2*1024*1024*1024-1' = 3", "days(7) = 1", "told(1, 7) = 9999");
        sentence("/ is 0 by 0", "'fine 5/0' = 0", "fine() = 0", "'fine 0/0' = 1", "fine() = 0", "'fine 3+5/d' = 2", "fine() = 3",
                "'fine (0-5)/0*2+1' = 3", "fine() = 1");
        sentence("tests give 1 or 0",
                "'fine 2<3' = 0", "fine() = 1", "'fine 3<3' = 1", "fine() = 0", "'fine 4<3' = 2", "fine() = 0", "'fine 3=3' = 3",
                "fine() = 1", "'fine 3=4' = 4", "fine() = 0", "'fine 3>2' = 5", "fine() = 1", "'fine 3>3' = 6", "fine() = 0",
                "'fine (0-1)<0' = 7", "fine() = 1", "'fine 0-1>0' = 8", "fine() = 0");
        sentence("& | ! give 1 or 0 (what is not 0 is true)",
                "'fine 5&7' = 0", "fine() = 1", "'fine 1&2' = 1", "fine() = 1", "'fine 5&0' = 2", "fine() = 0", "'fine 0&5' = 3",
                "fine() = 0", "'fine 5|0' = 4", "fine() = 1", "'fine 0|(0-5)' = 5", "fine() = 1", "'fine 0|0' = 6", "fine() = 0",
                "'fine !0' = 7", "fine() = 1", "'fine !5' = 8", "fine() = 0", "'fine !(0-1)' = 9", "fine() = 0", "'fine !!5' = 10",
                "fine() = 1");
        sentence("(both sides are worked out)", "'fine 1|5/0' = 0", "fine() = 1", "'fine 0&5/0' = 1", "fine() = 0",
                "textTold(0, 1) = 3");
        sentence("E, the loosest first",
                "'fine 1|1&0' = 0", "fine() = 1", "'fine 0&0=0' = 1", "fine() = 0", "'fine 2=1+1' = 2", "fine() = 1", "'fine 1+2*3' = 3",
                "fine() = 7", "'fine !1+1' = 4", "fine() = 1", "'fine 9-3-2' = 5", "fine() = 4", "'fine 9/2*2' = 6", "fine() = 8",
                "'fine 2*(1+2)' = 7", "fine() = 6", "'fine 8-2+1' = 8", "fine() = 7");
    }

    private static void sheetsAndSlots() {
        sentence("SHEETS 0 .. 3, or MISSING (at first)",
                "pour(0) = NOTHING", "pour(3) = NOTHING", "pour(4) = BAD", "pour(-1) = BAD", "sheet(0, 0, 1) = 1",
                "sheet(3, 1, 1) = 1", "pour(0) = 0", "pour(3) = 0", "pour(1) = NOTHING", "pour(2) = NOTHING");
        sentence("with 0 to 24 places",
                "sheet(0, 0, 0) = 0", "mark(0, 0, 1) = INDEX", "sheet(1, 1, 24) = 24", "mark(1, 23, 1) = 1", "mark(1, 24, 1) = INDEX",
                "sheet(2, 0, 25) = BAD", "sheet(2, 0, -1) = SIZE", "mark(2, 0, 1) = NOTHING");
        sentence("A place of floats may be NO NUMBER",
                "sheet(0, 1, 1) = 1", "sheet(1, 0, 1) = 1", "mark(0, 0, NONE) = 1", "mark(1, 0, NONE) = KIND", "lay(0, 2, 0) = 0",
                "item(0, 0) = KIND");
        sentence("SLOTS 0 .. 4 each hold nothing (at first)",
                "rest(0, 1) = NOTHING", "rest(4, 1) = NOTHING", "rest(5, 1) = BAD", "rest(-1, 1) = BAD", "lay(0, 3, 7) = 0",
                "lay(4, 3, 9) = 0", "rest(0, 5) = 2", "rest(4, 5) = 4", "rest(1, 5) = NOTHING", "rest(3, 5) = NOTHING");
        sentence("a DISTRICT (as it is then, for good)",
                "keep() = 0", "district(1, 4) = 0", "lay(0, 1, 0) = 0", "set(0, 1, 9) = 4", "turns(0, 2) = 1", "ask(0, 1) = 6",
                "ask(0, 2) = KIND", "back() = 0", "ask(0, 1) = 6");
        sentence("a SHEET (a row of its own, as it was then)",
                "sheet(0, 0, 2) = 2", "mark(0, 1, 5) = 1", "lay(0, 2, 0) = 0", "mark(0, 1, 6) = 1", "item(0, 1) = 5",
                "sheet(0, 1, 1) = 1", "item(0, 1) = 5", "sheet(0, -1, 0) = 0", "item(0, 1) = 5", "item(0, 2) = INDEX");
    }

    private static void image() {
        sentence("AN IMAGE keeps all but SHEETS, SLOTS, numbers that wait, THE TAPE",
                "keep() = 0", "sheet(0, 0, 1) = 1", "lay(0, 3, 5) = 0", "tell(5) = 1", "<fine 5> = 6", "district(0, 0) = 0",
                "rule(0, 1) = 20", "rule(1, 1) = 2", "rule(2, 1) = 2", "seed(9) = 1", "days(1) = 0", "back() = 0", "count(0) = 0",
                "count(1) = 0", "count(2) = 20", "count(3) = 2", "count(4) = 2", "count(9) = 1", "pour(0) = 0", "rest(0, 3) = 2",
                "count(7) = 1", "count(8) = 6", "text() = 0", "fine() = 5", "back() = 0", "count(6) = 0", "fine() = 0",
                "why(2) = NONE");
        sentence("all can become as it is (again and again)",
                "district(5, 2) = 0", "days(3) = 0", "keep() = 1", "days(4) = 1", "back() = 1", "count(1) = 3", "told(0, 5) = 6",
                "told(0, 4) = 3", "told(0, 7) = -6", "days(4) = 1", "told(0, 3) = 14", "back() = 1", "told(0, 3) = 7", "count(1) = 3",
                "back() = 1", "count(1) = 3");
        sentence("in how many DISTRICTS there is a FAIR; PURSES of all, together, behind each",
                "6 x district(5, 1)", "set(0, 3, 1000) = 0", "days(1) = 0", "keep() = 6", "tell(6) = 1", "tell(976) = 2",
                "tell(0) = 3", "tell(964) = 4", "check(2) = 0", "tell(0) = 1", "check(1) = 1");
    }
}
