/** The sentences of promises 1 to 39 that name a boundary: the last values that are taken, what is empty, full or wraps. */
public final class EndsTest {
    public static void main(String[] args) {
        districts();
        days();
        thoughts();
        texts();
        sheets();
        marks();
        reads();
        copies();
        slots();
        checks();
        checksAtTheEnd();
        images();
        counts();
        Due.end();
    }

    private static void promise(String words, String... rows) {
        new Script(words, rows);
    }

    private static void districts() {
        promise("1: As told; no DISTRICTS",
                "count(0) = 0", "count(1) = 0", "count(2) = 20", "count(3) = 2", "count(4) = 2", "count(5) = 0", "count(6) = 0",
                "count(7) = 0", "count(8) = 0", "count(9) = 1", "told(0, 0) = BAD", "why(0) = NONE", "why(1) = NONE",
                "why(2) = NONE", "back() = NO", "fine() = 0", "richest(0) = NONE", "text() = -100");
        promise("2: One more DISTRICT: its number",
                "district(0, 0) = 0", "district(5, 9) = 1", "told(0, 0) = 0", "told(0, 1) = 0", "told(1, 0) = 5", "told(1, 1) = 9",
                "deal(3) = 3", "district(5, 0) = 5");
        promise("3: what 0 to 9, of the first DISTRICT and of the last",
                "district(4, 6) = 0", "4 x district(0, 0)", "district(3, 9) = 5", "told(0, 0) = 4", "told(0, 9) = 0",
                "told(5, 0) = 3", "told(5, 1) = 9", "told(5, 2) = 0", "told(5, 3) = 7", "told(5, 4) = 0", "told(5, 5) = 0",
                "told(5, 6) = 0", "told(5, 7) = 0", "told(5, 8) = 22", "rule(2, 0) = 2", "told(5, 9) = 1", "told(0, 9) = 1");
        promise("4: with x (0 .. 9), above RATE, too",
                "district(0, 0) = 0", "births(0, 0) = 0", "births(0, 9) = 9", "births(0, -1) = BAD", "births(0, 10) = BAD");
        promise("6: of another KIND from now on: what it was",
                "district(0, 4) = 0", "turns(0, 5) = 0", "turns(0, 5) = 5", "turns(0, 0) = 5", "told(0, 0) = 0", "told(0, 1) = 4",
                "turns(0, 4) = 0", "as(0, 2) = 4", "told(0, 8) = 22");
        promise("7: RATE (what 1)",
                "district(0, 4) = 0", "days(3) = 0", "set(0, 1, 0) = 4", "set(0, 1, 9) = 0", "told(0, 1) = 9", "told(0, 4) = 3",
                "told(0, 3) = 7");
        promise("7: LONG (2; PLACE is 0 then)",
                "district(5, 2) = 0", "days(3) = 0", "set(0, 2, 7) = 7", "told(0, 4) = 0", "days(1) = 0", "set(0, 2, 2) = 7",
                "told(0, 4) = 0", "days(1) = 0", "set(0, 2, 60) = 2", "told(0, 4) = 0", "told(0, 3) = 60", "told(0, 5) = 10",
                "told(0, 2) = 0", "told(0, 7) = -10", "days(59) = 0", "told(0, 4) = 59", "days(1) = 1", "told(0, 3) = 60");
        promise("7: PURSE (3; -99999 .. 99999)",
                "district(5, 9) = 0", "set(0, 3, 99999) = 0", "set(0, 3, -99999) = 99999", "told(0, 7) = -99999", "days(1) = 0",
                "set(0, 3, 0) = -100001", "set(0, 3, 99999) = 0", "rule(1, 0) = 2", "days(6) = 1", "told(0, 7) = 100019");
        promise("8: how many are HIDDEN",
                "district(5, 3) = 0", "days(1) = 0", "hide(0) = 1", "hide(0) = 2", "hide(0) = 3", "hide(0) = NO", "days(1) = 0",
                "hide(0) = 4", "told(0, 5) = 2", "told(0, 6) = 4");
        promise("9: WAGE (what 0), RENT (1), FAIR (2) becomes v: what it was",
                "rule(0, 999) = 20", "rule(0, 0) = 999", "rule(1, 99) = 2", "rule(1, 0) = 99", "rule(2, 59) = 2", "rule(2, 0) = 59",
                "count(2) = 0", "count(3) = 0", "count(4) = 0");
        promise("10: n (1 .. 6) of them, as many as there is room for (no draws for others)",
                "deal(1) = 1", "count(9) = -1770082073", "deal(6) = 5", "count(0) = 6", "count(9) = 836760821", "deal(6) = 0",
                "deal(1) = 0", "count(9) = 836760821");
        promise("10: all six", "deal(6) = 6", "count(9) = 836760821");
        promise("11: z becomes v: what it was",
                "seed(0) = 1", "seed(MIN) = 0", "seed(MAX) = MIN", "seed(-1) = MAX", "count(9) = -1");
    }

    private static void days() {
        promise("12: n (1 .. 300) DAYS",
                "district(5, 1) = 0", "days(1) = 0", "count(1) = 1", "days(300) = 43", "count(1) = 301", "days(301) = BAD",
                "days(0) = BAD", "count(1) = 301");
        promise("12: how many weeks began in them",
                "district(5, 0) = 0", "district(5, 1) = 1", "days(6) = 0", "days(1) = 2", "days(2) = 1", "days(1) = 0", "days(4) = 3");
        promise("12: (no more than up to 99999)",
                "333 x days(300)", "district(5, 1) = 0", "days(300) = 14", "count(1) = 99999", "told(0, 4) = 1", "told(0, 2) = 14",
                "told(0, 7) = 82", "days(300) = 0", "days(1) = 0", "told(0, 4) = 1", "count(1) = 99999", "days(301) = BAD");
    }

    private static void thoughts() {
        promise("13: BEHIND n (0 .. 300) DAYS, what 0 to 4",
                "district(5, 1) = 0", "days(3) = 0", "behind(0, 0, 0) = 0", "behind(0, 0, 1) = 7", "behind(0, 0, 2) = 3",
                "behind(0, 0, 3) = 3", "behind(0, 0, 4) = -6", "behind(0, 300, 0) = 43", "behind(0, 300, 1) = 7",
                "behind(0, 300, 2) = 2", "behind(0, 300, 3) = 2", "behind(0, 300, 4) = 254", "behind(0, 301, 0) = BAD",
                "behind(0, -1, 0) = BAD");
        promise("13: WEEK, from now on",
                "district(5, 1) = 0", "days(15) = 2", "behind(0, 0, 0) = 2", "behind(0, 300, 0) = 45", "behind(0, 6, 0) = 3",
                "behind(0, 5, 0) = 2", "behind(0, 0, 0) = 2");
        promise("14: (or of one told twice); NONE: not by then",
                "district(5, 1) = 0", "meets(0, 0) = 2", "days(2) = 0", "meets(0, 0) = 0", "days(1) = 0", "meets(0, 0) = 6",
                "rule(2, 7) = 2", "meets(0, 0) = NONE");
        promise("15: in n (0 .. 300) DAYS",
                "district(5, 0) = 0", "sundays(0, 0) = 0", "sundays(0, 298) = 146", "sundays(0, 299) = 147",
                "sundays(0, 300) = 147", "sundays(0, 301) = BAD", "sundays(0, -1) = BAD");
        promise("16: in n (0 .. 100) DAYS",
                "district(5, 1) = 0", "trader(0, 0) = 0", "trader(0, 99) = 14", "trader(0, 100) = 15", "trader(0, 101) = BAD",
                "trader(0, -1) = BAD");
        promise("17: behind n (0 .. 300)",
                "district(5, 1) = 0", "district(5, 1) = 1", "set(1, 2, 60) = 7", "set(0, 3, -750) = 0", "richest(0) = 1",
                "richest(299) = 0", "richest(300) = 1", "set(0, 3, -740) = -750", "richest(300) = 0", "richest(301) = BAD",
                "richest(-1) = BAD");
        promise("18: for n (0 .. 300)",
                "district(5, 1) = 0", "days(1) = 0", "brings(0, 0) = 0", "brings(0, 299) = 20", "brings(0, 300) = 0",
                "brings(0, 301) = BAD", "brings(0, -1) = BAD", "hide(0) = 1", "brings(0, 5) = NO");
        promise("18: less as it is: by a TEXT, and below 0",
                "district(5, 1) = 0", "days(1) = 0", "'wage l' = 0", "brings(0, 11) = 0", "brings(0, 12) = 6", "brings(0, 13) = -1",
                "brings(0, 19) = 6", "told(0, 7) = -2");
        promise("19: what 0 the RATE, 1 the differences, together",
                "district(5, 1) = 0", "sheet(3, 1, 24) = 24", "rated(3, 0, 0) = 0", "rated(3, 0, 1) = 17", "sheet(3, 1, 2) = 2",
                "mark(3, 1, 99999) = 1", "rated(3, 0, 0) = 9", "rated(3, 0, 1) = 99946", "told(0, 1) = 1");
        promise("20: What fine gives, not held",
                "'fine 0-1' = 0", "fine() = -1", "'fine 9999*9999' = 1", "fine() = 99980001", "'fine 2*1024*1024*1024' = 2",
                "fine() = MIN");
    }

    private static void texts() {
        promise("21: Twelve bytes come to THE TAPE, the highest of each number first: how many it has",
                "feed(1718185573, 540093234, 707993632) = 12", "text() = 0", "fine() = 7",
                "feed(538976288, 538976288, 1718185573) = 12", "feed(540093234, 707993632, 538976288) = 24", "text() = 1",
                "feed(1718185573, 540606253, -2147475424) = 12", "text() = -106");
        promise("21: FULL: it would have more than 96",
                "7 x feed(538976288, 538976288, 538976288)", "count(8) = 84", "feed(1718185573, 540093234, 707993632) = 96",
                "feed(0, 0, 0) = FULL", "text() = 0", "fine() = 7", "8 x feed(0, 0, 0)", "trim(85) = 85", "feed(0, 0, 0) = FULL",
                "count(8) = 85", "trim(84) = 84", "feed(0, 0, 0) = 96");
        promise("22: THE TAPE keeps its first n bytes: n",
                "trim(0) = 0", "trim(1) = BAD", "feed(1718185573, 540093234, 707993632) = 12", "trim(12) = 12", "trim(13) = BAD",
                "trim(6) = 6", "count(8) = 6", "trim(7) = BAD", "text() = 0", "fine() = 1",
                "feed(1718185573, 540093234, 707993632) = 12", "trim(0) = 0", "count(8) = 0", "text() = -100");
        promise("22: what was cut off does not come back",
                "feed(1718185573, 540093234, 707993632) = 12", "trim(6) = 6", "feed(538976288, 538976288, 538976288) = 18",
                "text() = 0", "fine() = 1");
        promise("24: how many NUMBERS and NAMES it has",
                "'fine 1' = 0", "textTold(0, 1) = 1", "'wage (l)' = 1", "textTold(1, 1) = 1", "'birth !x+l*1000<p' = 2",
                "textTold(2, 1) = 4", "textTold(0, 0) = 2", "textTold(1, 0) = 1", "textTold(2, 0) = 0", "textTold(3, 0) = BAD");
        promise("25: The TEXT that counts for a KEY",
                "why(0) = NONE", "why(2) = NONE", "'birth 1' = 0", "why(0) = 0", "why(1) = NONE", "12 x 'wage 1'", "'fine 1' = 13",
                "why(0) = 0", "why(1) = 12", "why(2) = 13", "'fine 2' = FULL", "why(2) = 13", "why(3) = BAD", "why(-1) = BAD");
    }

    private static void sheets() {
        promise("26: a row of n places of a sort, all 0",
                "sheet(0, 1, 24) = 24", "mark(0, 0, 5) = 1", "mark(0, 23, NONE) = 1", "sheet(0, 1, 24) = 24", "lay(0, 2, 0) = 0",
                "item(0, 0) = 0", "item(0, 23) = 0", "item(0, 24) = INDEX", "mark(0, 1, 5) = 1", "sheet(0, 0, 1) = 1",
                "sheet(0, 0, 24) = 24", "lay(0, 2, 0) = 2", "item(0, 1) = 0", "mark(0, 0, NONE) = KIND");
        promise("26: (sort -1: MISSING, n any): n (0)",
                "sheet(3, 0, 2) = 2", "sheet(3, -1, 25) = 0", "mark(3, 0, 1) = NOTHING", "sheet(3, -1, MIN) = 0",
                "sheet(3, -1, MAX) = 0", "sheet(3, -1, -1) = 0", "sheet(3, 1, 0) = 0", "pour(3) = 0");
        promise("28: (each held within 0 .. 9)",
                "6 x district(0, 5)", "sheet(0, 1, 6) = 6", "mark(0, 0, -1)", "mark(0, 1, 0)", "mark(0, 2, 9)", "mark(0, 3, 10)",
                "mark(0, 4, 99999)", "mark(0, 5, -99999)", "pour(0) = 6", "told(0, 1) = 0", "told(1, 1) = 0", "told(2, 1) = 9",
                "told(3, 1) = 9", "told(4, 1) = 9", "told(5, 1) = 0");
        promise("28: (NO NUMBER, and beyond the SHEET: they stay)",
                "4 x district(0, 5)", "sheet(0, 1, 3) = 3", "mark(0, 0, 4)", "mark(0, 1, NONE)", "mark(0, 2, 6)", "pour(0) = 2",
                "told(0, 1) = 4", "told(1, 1) = 5", "told(2, 1) = 6", "told(3, 1) = 5", "sheet(0, 0, 0) = 0", "pour(0) = 0",
                "told(0, 1) = 4");
        promise("28: how many are otherwise then",
                "6 x district(0, 0)", "sheet(0, 0, 24) = 24", "pour(0) = 0", "mark(0, 5, 1)", "mark(0, 6, 1)", "pour(0) = 1",
                "pour(0) = 0", "told(5, 1) = 1", "mark(0, 5, -32768)", "pour(0) = 1", "mark(0, 5, -1)", "pour(0) = 0");
        promise("28: without DISTRICTS", "sheet(0, 0, 24) = 24", "mark(0, 0, 5)", "pour(0) = 0");
    }

    private static void marks() {
        int[][] shorts = {{0, 0}, {32767, 32767}, {32768, -32768}, {-32768, -32768}, {-32769, 32767}, {65535, -1}, {65536, 0},
            {Integer.MIN_VALUE, 0}, {Integer.MAX_VALUE, -1}, {-1000000004, 13820}, {-1000000006, 13818}, {100000, -31072}};
        for (int[] pair : shorts) {
            promise("27: of shorts its lowest 16 bits", "sheet(0, 0, 24) = 24", "mark(0, 23, " + pair[0] + ") = 1",
                    "lay(0, 2, 0) = 0", "item(0, 23) = " + pair[1], "item(0, 22) = 0");
        }
        int[] floats = {-99999, -99998, -1, 0, 1, 65536, 99998, 99999};
        for (int v : floats) {
            promise("27: of floats v, -99999 .. 99999", "sheet(0, 1, 24) = 24", "mark(0, 0, " + v + ") = 1", "lay(0, 2, 0) = 0",
                    "item(0, 0) = " + v, "item(0, 1) = 0");
        }
        promise("27: NONE: NO NUMBER", "sheet(0, 1, 1) = 1", "mark(0, 0, NONE) = 1", "lay(0, 2, 0) = 0", "item(0, 0) = KIND",
                "mark(0, 0, 3) = 1", "lay(0, 2, 0) = 2", "item(0, 0) = 3");
    }

    private static void reads() {
        Script s = new Script("29: the first place k at which a SHEET is not PLACE of a DISTRICT behind k DAYS",
                "district(5, 1) = 0", "sheet(0, 1, 24) = 24", "mark(0, 0, 1) = 1", "reads(0, 0) = 0");
        for (int k = 0; k < 24; k++) {
            s.run("mark(0, " + k + ", " + k % 7 + ") = 1");
        }
        s.run("reads(0, 0) = NONE", "mark(0, 23, 3) = 1", "reads(0, 0) = 23", "mark(0, 22, 0) = 1", "reads(0, 0) = 22",
                "days(1) = 0", "reads(0, 0) = 0");
        promise("29: (of numbers alone)",
                "district(5, 1) = 0", "sheet(0, 1, 3) = 3", "mark(0, 0, NONE)", "mark(0, 1, NONE)", "reads(0, 0) = 2",
                "mark(0, 2, NONE)", "reads(0, 0) = NONE");
        promise("29: a row of no places", "district(5, 1) = 0", "sheet(0, 0, 0) = 0", "reads(0, 0) = NONE");
    }

    private static void copies() {
        String[] row = {"sheet(0, 1, 4) = 4", "mark(0, 0, 10)", "mark(0, 1, NONE)", "mark(0, 2, 12)", "mark(0, 3, 13)"};
        Script up = new Script("30: to the same, upwards, as they were", row);
        up.run("copy(0, 0, 0, 1, 3) = 3", "lay(0, 2, 0)", "item(0, 0) = 10", "item(0, 1) = 10", "item(0, 2) = KIND", "item(0, 3) = 12");
        Script down = new Script("30: to the same, downwards, as they were", row);
        down.run("copy(0, 1, 0, 0, 3) = 3", "lay(0, 2, 0)", "item(0, 0) = KIND", "item(0, 1) = 12", "item(0, 2) = 13",
                "item(0, 3) = 13");
        Script ends = new Script("30: INDEX: the last places that there are", row);
        ends.run("sheet(1, 1, 2) = 2", "copy(0, 2, 1, 0, 2) = 2", "lay(0, 2, 1)", "item(0, 0) = 12", "item(0, 1) = 13",
                "copy(0, 3, 1, 1, 1) = 1", "copy(0, 4, 1, 1, 1) = INDEX", "copy(0, 3, 1, 2, 1) = INDEX", "copy(0, 3, 1, 0, 2) = INDEX",
                "copy(0, 0, 1, 1, 2) = INDEX", "copy(0, 0, 0, 0, 4) = 4", "copy(0, 0, 0, 0, 5) = INDEX");
        Script none = new Script("30: many 0: not at the place behind the last one", row);
        none.run("sheet(1, 1, 0) = 0", "copy(0, 4, 1, 0, 0) = 0", "copy(1, 0, 0, 4, 0) = 0", "copy(0, 0, 0, 0, 0) = 0",
                "copy(0, 5, 1, 0, 0) = INDEX", "copy(0, 4, 1, 1, 0) = INDEX", "copy(0, 0, 0, 0, -1) = INDEX");
        promise("30: a whole row of 24",
                "sheet(0, 0, 24) = 24", "sheet(3, 0, 24) = 24", "mark(0, 0, 7)", "mark(0, 23, 8)", "copy(0, 0, 3, 0, 24) = 24",
                "lay(4, 2, 3) = 0", "item(4, 0) = 7", "item(4, 23) = 8");
    }

    private static void slots() {
        promise("31: what it held (0 .. 3)",
                "district(0, 5) = 0", "sheet(0, 0, 1) = 1", "lay(4, 0, 0) = 0", "lay(4, 1, 0) = 0", "lay(4, 2, 0) = 1",
                "lay(4, 3, 0) = 2", "lay(4, 0, 0) = 3", "lay(4, 0, 0) = 0");
        promise("31: DISTRICT k, SHEET k: the first and the last",
                "6 x district(0, 5)", "lay(0, 1, 0) = 0", "lay(0, 1, 5) = 1", "lay(0, 1, 6) = BAD", "sheet(0, 0, 0) = 0",
                "sheet(3, 1, 0) = 0", "lay(0, 2, 0) = 1", "lay(0, 2, 3) = 2", "lay(0, 2, 4) = BAD", "lay(0, 0, 9) = 2");
        promise("31: nothing, and the number k, any",
                "lay(0, 3, MIN) = 0", "rest(0, MAX) = -1", "lay(0, 3, MAX) = 3", "rest(0, MIN) = MAX", "lay(0, 3, NONE) = 3",
                "rest(0, 10) = -5", "lay(0, 0, MIN) = 3", "lay(0, 0, MAX) = 0");
        int[] worth = {5, 7, 25, 14, 21, 11};
        String[] above = {"0", "01", "02", "013", "024", "05"};
        for (int kind = 0; kind < 6; kind++) {
            Script s = new Script("32: WORTH (by its own KIND), taken for one of a KIND (0 .. 5)",
                    "district(" + kind + ", 5) = 0", "lay(0, 1, 0) = 0");
            for (int of = 0; of < 6; of++) {
                s.run("ask(0, " + of + ") = " + (above[kind].indexOf('0' + of) >= 0 ? "" + worth[kind] : "KIND"));
            }
        }
        promise("33: a place of the SHEET in a SLOT: the first and the last",
                "sheet(0, 1, 24) = 24", "mark(0, 0, -99999)", "mark(0, 23, 99999)", "lay(4, 2, 0) = 0", "item(4, 0) = -99999",
                "item(4, 23) = 99999", "item(4, 24) = INDEX", "item(4, -1) = INDEX");
        promise("34: the rest by n",
                "lay(0, 3, 7) = 0", "rest(0, 3) = 1", "rest(0, -3) = 1", "rest(0, 1) = 0", "rest(0, -1) = 0", "rest(0, 7) = 0",
                "rest(0, 8) = 7", "rest(0, MIN) = 7", "lay(0, 3, -7) = 3", "rest(0, 3) = -1", "rest(0, -3) = -1", "rest(0, 0) = NO");
        promise("34: the rest of the least number",
                "lay(0, 3, MIN) = 0", "rest(0, -1) = 0", "rest(0, 1) = 0", "rest(0, MIN) = 0", "rest(0, MAX) = -1");
    }

    /** One EVEN district of RATE 1, whose weeks have seven days: what n days behind a new object's tell. */
    private static Script told(String words, int numbers) {
        Script s = new Script(words, "district(5, 1) = 0", "keep() = 1");
        for (int i = 0; i < numbers; i++) {
            int day = i / 2 + 1;
            int due = i % 2 == 0 ? day % 7 == 2 ? 1 : 0 : day / 7 * 20 - 2 * day;
            s.run("tell(" + due + ") = " + (i + 1));
        }
        return s;
    }

    private static void checks() {
        promise("35: FULL: 60 wait", "tell(MIN) = 1", "58 x tell(MAX)", "tell(0) = 60", "tell(0) = FULL", "count(7) = 60");
        told("36: n (1 .. 30): 1", 2).run("check(1) = 0", "count(7) = 0");
        told("36: n (1 .. 30): 30", 60).run("check(30) = 0", "count(7) = 0");
        told("36: n (1 .. 30): none wait then, whatever is answered", 2).run("check(0) = BAD", "count(7) = 0", "tell(0) = 1",
                "check(31) = BAD", "count(7) = 0", "tell(5) = 1", "check(1) = 1", "count(7) = 0");
        told("36: the first that is missing", 0).run("check(1) = 1", "check(30) = 1");
        told("36: the second is missing", 1).run("check(1) = 2");
        told("36: the last is missing", 59).run("check(30) = 60");
        told("36: the first of a day is missing", 58).run("check(30) = 59");
        told("36: the first that is one too many", 60).run("check(29) = 59");
        told("36: one too many", 3).run("check(1) = 3");
        told("36: the first that is not", 0).run("tell(1) = 1", "tell(-2) = 2", "check(1) = 1");
        told("36: the last that is not", 59).run("tell(0) = 60", "check(30) = 60");
        told("36: one that is not ahead of one too many", 1).run("tell(0) = 2", "tell(0) = 3", "check(1) = 2");
    }

    private static void checksAtTheEnd() {
        promise("36: fewer, if THE DAY there would be above 99999",
                "333 x days(300)", "days(98)", "district(5, 1) = 0", "keep() = 1", "count(1) = 99998", "tell(0) = 1", "tell(-2) = 2",
                "check(1) = 0", "tell(0) = 1", "tell(-2) = 2", "check(2) = 0", "tell(0) = 1", "tell(-2) = 2", "check(30) = 0",
                "tell(0) = 1", "tell(-2) = 2", "tell(1) = 3", "check(30) = 3", "days(1) = 0", "keep() = 1", "count(1) = 99999",
                "check(1) = 0", "check(30) = 0", "tell(0) = 1", "check(30) = 1");
        promise("36: THE DAY there is that of THE IMAGE",
                "333 x days(300)", "days(97)", "district(5, 1) = 0", "keep() = 1", "days(300)", "count(1) = 99999", "tell(0) = 1",
                "tell(-2) = 2", "tell(1) = 3", "tell(-4) = 4", "check(30) = 0", "check(2) = 1");
        promise("36: by THE IMAGE: its TEXTS and what ruled then",
                "district(5, 1) = 0", "'wage 5' = 0", "rule(2, 6) = 2", "keep() = 1", "'wage 9' = 1", "'birth 9' = 2",
                "turns(0, 0) = 5", "rule(1, 0) = 2", "rule(2, 0) = 6", "tell(0)", "tell(-2)", "tell(0)", "tell(-4)", "tell(0)",
                "tell(-6)", "tell(0)", "tell(-8)", "tell(0)", "tell(-10)", "tell(1)", "tell(-12)", "tell(0)", "tell(-9)",
                "check(7) = 0");
        promise("36: without DISTRICTS", "keep() = 0", "tell(0) = 1", "tell(0) = 2", "check(1) = 0", "tell(1) = 1", "check(1) = 1");
    }

    private static void images() {
        promise("37: how many DISTRICTS: none, all", "keep() = 0", "deal(6) = 6", "keep() = 6", "back() = 6");
        promise("37: a later IMAGE takes the place of the first",
                "keep() = 0", "district(5, 1) = 0", "days(2) = 0", "keep() = 1", "days(5) = 1", "district(0, 0) = 1", "back() = 1",
                "count(1) = 2", "count(0) = 1", "told(0, 5) = 2");
        promise("38: All is as THE IMAGE: no DISTRICTS",
                "keep() = 0", "deal(6) = 6", "days(9)", "back() = 0", "count(0) = 0", "told(0, 0) = BAD", "richest(0) = NONE",
                "count(5) = 0", "count(9) = 1", "deal(6) = 6", "count(9) = 836760821", "told(0, 5) = 0", "told(5, 7) = 0");
        promise("38: All is as THE IMAGE: a DISTRICT that comes then is new",
                "keep() = 0", "district(5, 3) = 0", "days(9) = 1", "hide(0) = 1", "back() = 0", "district(4, 2) = 0", "told(0, 0) = 4",
                "told(0, 1) = 2", "told(0, 2) = 0", "told(0, 3) = 7", "told(0, 4) = 0", "told(0, 5) = 0", "told(0, 6) = 0",
                "told(0, 7) = 0");
        promise("38: All is as THE IMAGE: WEEK",
                "district(5, 1) = 0", "days(15) = 2", "keep() = 1", "days(7) = 1", "told(0, 2) = 3", "back() = 1", "told(0, 2) = 2",
                "days(300) = 43", "back() = 1", "told(0, 2) = 2");
        promise("38: All is as THE IMAGE: room for TEXTS again",
                "'fine 1' = 0", "keep() = 0", "13 x 'fine 2'", "'fine 3' = FULL", "back() = 0", "count(6) = 1", "fine() = 1",
                "why(2) = 0", "'fine 3' = 1", "fine() = 3", "back() = 0", "fine() = 1", "textTold(1, 0) = BAD");
        promise("38: All is as THE IMAGE: DAYS to live again",
                "333 x days(300)", "keep() = 0", "days(300) = 0", "count(1) = 99999", "back() = 0", "count(1) = 99900",
                "days(300) = 0", "count(1) = 99999");
        promise("38: what an IMAGE holds is not changed by what comes behind it",
                "district(5, 2) = 0", "days(1) = 0", "hide(0) = 1", "'wage 5' = 0", "keep() = 1", "hide(0) = 2", "turns(0, 0) = 5",
                "set(0, 1, 9) = 2", "set(0, 2, 50) = 7", "set(0, 3, 50) = -2", "'wage 6' = 1", "'birth 6' = 2", "back() = 1",
                "told(0, 0) = 5", "told(0, 1) = 2", "told(0, 3) = 7", "told(0, 4) = 1", "told(0, 5) = 1", "told(0, 6) = 1",
                "told(0, 7) = -2", "why(0) = NONE", "why(1) = 0", "days(6) = 1", "told(0, 7) = -9", "told(0, 3) = 13");
    }

    private static void counts() {
        promise("39: what 0 to 9",
                "district(5, 3) = 0", "district(5, 3) = 1", "days(4) = 0", "set(0, 3, 50) = -8", "rule(0, 30) = 20",
                "rule(1, 31) = 2", "rule(2, 32) = 2", "'fine 3' = 0", "tell(1) = 1", "tell(2) = 2", "feed(1, 2, 3) = 12",
                "seed(-4)", "count(0) = 2", "count(1) = 4", "count(2) = 30", "count(3) = 31", "count(4) = 32", "count(5) = 42",
                "count(6) = 1", "count(7) = 2", "count(8) = 12", "count(9) = -4", "count(-1) = BAD", "count(10) = BAD");
        promise("39: PURSES of all, together",
                "6 x district(5, 1)", "set(0, 3, 99999)", "set(1, 3, 99999)", "set(2, 3, 99999)", "set(3, 3, 99999)",
                "set(4, 3, 99999)", "set(5, 3, 99999)", "count(5) = 599994", "set(0, 3, -99999)", "set(1, 3, -99999)",
                "set(2, 3, -99999)", "set(3, 3, -99999)", "set(4, 3, -99999)", "set(5, 3, -99999)", "count(5) = -599994");
        // 49997 weeks of 9999 each; that an int is answered is all the document says of so great a sum
        promise("39: PURSES of all, together, where they are most",
                "rule(1, 0) = 2", "'wage 9999' = 0", "district(5, 0) = 0", "district(5, 0) = 1", "district(5, 0) = 2",
                "district(5, 0) = 3", "333 x days(300)", "days(99) = 200", "count(1) = 99999", "told(0, 2) = 49997",
                "told(0, 7) = 499920003", "told(3, 7) = 499920003", "count(5) = 1999680012", "richest(0) = 0",
                "behind(0, 300, 4) = 501419853", "days(300) = 0", "count(5) = 1999680012");
        promise("39: PURSES of all, together, beyond an int: it wraps",
                "rule(1, 0) = 2", "'wage 9999' = 0", "6 x district(5, 0)", "333 x days(300)", "days(99) = 300",
                "told(5, 7) = 499920003", "count(5) = -1295447278");
    }
}
