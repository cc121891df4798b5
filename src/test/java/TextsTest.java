/** Promises 21 to 25: the tape, texts and their faults. */
public final class TextsTest {
    public static void main(String[] args) {
        feed();
        trim();
        text();
        faults();
        openOnes();
        worked();
        textTold();
        why();
        Due.end();
    }

    private static void feed() {
        BirthWeeks w = new BirthWeeks();
        for (int i = 1; i <= 8; i++) {
            Due.is("21: feed", w.feed(i, -i, 0x61626364), 12 * i);
        }
        Due.is("21: a 97th byte", w.feed(0, 0, 0), Due.FULL);
        Due.is("21: the tape stays", w.count(8), 96);
        Due.is("21: trim(85)", w.trim(85), 85);
        Due.is("21: 97 bytes", w.feed(0, 0, 0), Due.FULL);
        Due.is("21: trim(84)", w.trim(84), 84);
        Due.is("21: 96 bytes", w.feed(0, 0, 0), 96);
        w.text();
        w.feed(0x66696e65, 0x20312b32, 0x2a332020);
        Due.is("21: the highest byte first", w.text(), 0);
        Due.is("21: fine 1+2*3", w.fine(), 7);
    }

    private static void trim() {
        BirthWeeks w = new BirthWeeks();
        Due.is("22: trim(0)", w.trim(0), 0);
        Due.is("22: trim(1)", w.trim(1), Due.BAD);
        w.feed(0x66696e65, 0x20353132, 0x20202020);
        Due.is("22: trim(-1)", w.trim(-1), Due.BAD);
        Due.is("22: trim(13)", w.trim(13), Due.BAD);
        Due.is("22: trim(12)", w.trim(12), 12);
        Due.is("22: trim(7)", w.trim(7), 7);
        Due.is("22: seven bytes", w.count(8), 7);
        Due.is("22: trim(8)", w.trim(8), Due.BAD);
        w.text();
        Due.is("22: the first ones stay", w.fine(), 51);
    }

    private static void text() {
        BirthWeeks w = new BirthWeeks();
        Due.is("23: an empty tape", w.text(), -100);
        for (int i = 0; i < 14; i++) {
            Due.is("23: a TEXT", Due.text(w, "fine " + i), i);
            Due.is("23: the tape is used up", w.count(8), 0);
        }
        Due.is("23: a fifteenth", Due.text(w, "fine 99"), Due.FULL);
        Due.is("23: the tape is used up, FULL", w.count(8), 0);
        Due.is("23: nothing changed", w.fine(), 13);
        Due.is("23: a FAULT ahead of FULL", Due.text(w, "fine 99 x"), -108);
        Due.is("23: the tape is used up, FAULT", w.count(8), 0);
        Due.is("23: fourteen", w.count(6), 14);
        Due.is("23: why(2)", w.why(2), 13);
    }

    private static void fault(String text, int place) {
        BirthWeeks w = new BirthWeeks();
        Due.is("23: '" + text + "'", Due.text(w, text), place < 0 ? 0 : -100 - place);
        Due.is("23: '" + text + "', the tape", w.count(8), 0);
        Due.is("23: '" + text + "', TEXTS", w.count(6), place < 0 ? 1 : 0);
    }

    private static void faults() {
        fault("birth x", -1);
        fault("   birth   x   ", -1);
        fault("birth(x)", -1);
        fault("birth!x", -1);
        fault("birth x+l*p", -1);
        fault("birth 0000", -1);
        fault("birth 9999", -1);
        fault("wage l|w&l<w", -1);
        fault("fine d=b", -1);
        fault("fine ((d)+(b))", -1);
        fault("", 0);
        fault("    ", 4);
        fault("birth", 5);
        fault("birth  ", 7);
        fault("bir", 0);
        fault("births x", 0);
        fault("birthx", 0);
        fault("Birth x", 0);
        fault("  death x", 2);
        fault("5 x", 0);
        fault("5birth", 0);
        fault("birth5", 5);
        fault("birth 5", -1);
        fault("birth 12345", 6);
        fault("birth 00001", 6);
        fault("birth x x", 8);
        fault("birth 5x", 7);
        fault("birth x5", 7);
        fault("birth xx", 6);
        fault("birth w", 6);
        fault("birth d", 6);
        fault("wage x", 5);
        fault("wage p", 5);
        fault("wage b", 5);
        fault("fine l", 5);
        fault("fine x", 5);
        fault("fine w", 5);
        fault("birth birth", 6);
        fault("birth +", 6);
        fault("birth -1", 6);
        fault("birth x +", 9);
        fault("birth x + ", 10);
        fault("birth x + + 1", 10);
        fault("birth x < 1 < 2", 12);
        fault("birth x = 1 > 2", 12);
        fault("birth x < 1 & 1 < 2", -1);
        fault("birth x < (1 < 2)", -1);
        fault("birth (x < 1) < 2", -1);
        fault("birth (x < 1 < 2)", 13);
        fault("birth x << 1", 9);
        fault("birth ()", 7);
        fault("birth (x", 8);
        fault("birth (x ", 9);
        fault("birth x)", 7);
        fault("birth (x))", 9);
        fault("birth x (1)", 8);
        fault("birth x ! 1", 8);
        fault("birth x % 2", 8);
        fault("birth x ^ 2", 8);
        fault("birth !", 7);
        fault("birth x\n", 7);
        fault("birth x\u00ff", 7);
        fault("birth \u0000x", 6);
        fault("birth X", 6);
        fault("birth 1 2", 8);
        fault("birth xz", 6);
        fault("birth xa", 6);
        fault("birthz x", 0);
        fault("xirth x", 0);
        fault("birtx x", 0);
        fault("birth 2z", 7);
        fault("birth x9", 7);
        fault("birth 10909", 6);
        String full = "birth " + "x+".repeat(44) + "x ";
        fault(full, -1);
        fault(full.substring(0, 95) + "+", 96);
        fault(full.substring(0, 94) + "++", 94);
        fault(full.substring(0, 93) + " + ", 96);
    }

    private static void openOnes() {
        String eight = "((((((((";
        String closed = "))))))))";
        fault("fine " + eight + "d" + closed, -1);
        fault("fine (" + eight + "d" + closed + ")", 13);
        fault("fine " + eight + "d" + closed + "+" + eight + "d" + closed, -1);
        fault("fine 1+" + eight + "1+(d", 17);
        fault("fine !!!!!!!!d", -1);
        fault("fine !!!!!!!!!d", 13);
        fault("fine !!!!!!!!d+!!!!!!!!d", -1);
        fault("fine !!!!!!!!(!d)", 14);
        fault("fine !!!!(!!!!d)", -1);
        fault("fine !!!!(!!!!!d)", 14);
        fault("fine !!!!(!!!!d+!!!!d)+!!!!!!!!b", -1);
        fault("fine !!!!!!!!" + eight + "d" + closed, -1);
        fault("fine " + eight + "!!!!!!!!d" + closed, -1);
        fault("fine (!!!!!!!!d)*!!!!!!!!b", -1);
        fault("fine " + eight + "d" + closed + "*(b)", -1);
        fault("fine !(!(!(!(!(!(!(!(d))))))))", -1);
        fault("fine !(!(!(!(!(!(!(!(!d))))))))", 21);
        fault("fine !(!(!(!(!(!(!(!((d))))))))", 21);
    }

    private static void gives(String e, int due) {
        BirthWeeks w = new BirthWeeks();
        w.district(5, 3);
        w.days(2);
        Due.is("23: '" + e + "'", Due.text(w, "fine " + e), 0);
        Due.is("23: " + e, w.fine(), due);
    }

    private static void worked() {
        gives("7", 7);
        gives("0012", 12);
        gives("d", 2);
        gives("b", 6);
        gives("10-3-2", 5);
        gives("100/7/2", 7);
        gives("7/2*2", 6);
        gives("2*7/2", 7);
        gives("2+3*4", 14);
        gives("(2+3)*4", 20);
        gives("(0-7)/2", -3);
        gives("5/0", 0);
        gives("0/0", 0);
        gives("1+5/(d-2)", 1);
        gives("9999*9999*9999", 9999 * 9999 * 9999);
        gives("(0-2*1024*1024*1024)/(0-1)", Integer.MIN_VALUE);
        gives("2<3", 1);
        gives("3<3", 0);
        gives("3=3", 1);
        gives("3=4", 0);
        gives("4>3", 1);
        gives("3>3", 0);
        gives("1+2<4", 1);
        gives("5&7", 1);
        gives("5&0", 0);
        gives("0|0", 0);
        gives("0|(0-3)", 1);
        gives("5|0", 1);
        gives("1|0&0", 1);
        gives("(1|0)&0", 0);
        gives("1&2=2", 1);
        gives("2=2&1", 1);
        gives("!0", 1);
        gives("!7", 0);
        gives("!!7", 1);
        gives("!d+1", 1);
        gives("!(d-2)", 1);
        gives("!0*5", 5);
        gives("8/!0", 8);
        gives("1<2&3>2|0", 1);
        gives("0-1<0", 1);
        BirthWeeks w = new BirthWeeks();
        w.district(0, 9);
        w.days(3);
        Due.text(w, "birth 0 + p");
        Due.is("23: birth 0 + p", w.births(0, 9), 3);
        Due.text(w, "birth l * 1 - x * 2");
        Due.is("23: birth l * 1 - x * 2", w.births(0, 2), 3);
    }

    private static void textTold() {
        BirthWeeks w = new BirthWeeks();
        Due.text(w, "fine 1+(d*!b)-1");
        Due.text(w, "birth x");
        Due.text(w, "wage 1|2&l<w");
        int[][] due = {{2, 4}, {0, 1}, {1, 4}};
        for (int i = 0; i < 3; i++) {
            Due.is("24: KEY", w.textTold(i, 0), due[i][0]);
            Due.is("24: NUMBERS and NAMES", w.textTold(i, 1), due[i][1]);
        }
        Due.is("24: textTold(3, 0)", w.textTold(3, 0), Due.BAD);
        Due.is("24: textTold(-1, 0)", w.textTold(-1, 0), Due.BAD);
        Due.is("24: textTold(0, 2)", w.textTold(0, 2), Due.BAD);
        Due.is("24: textTold(0, -1)", w.textTold(0, -1), Due.BAD);
    }

    private static void why() {
        BirthWeeks w = new BirthWeeks();
        Due.is("25: why(-1)", w.why(-1), Due.BAD);
        Due.is("25: why(3)", w.why(3), Due.BAD);
        Due.is("25: why(2)", w.why(2), Due.NONE);
        Due.text(w, "fine 1");
        Due.text(w, "birth 1");
        Due.text(w, "fine 2");
        Due.is("25: told last", w.why(2), 2);
        Due.is("25: told last counts", w.fine(), 2);
        Due.is("25: why(0)", w.why(0), 1);
        Due.is("25: why(1)", w.why(1), Due.NONE);
        Due.text(w, "fine 3 3");
        Due.is("25: a fault changes nothing", w.why(2), 2);
        Due.is("25: a fault changes nothing", w.fine(), 2);
    }
}
