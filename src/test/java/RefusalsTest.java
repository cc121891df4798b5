import java.util.ArrayList;
import java.util.List;

/**
 * Each call that the document refuses, with the answer that stands first with it. It is called on one of two
 * objects that were made alike; then all that can be asked is asked of both, and must be answered alike.
 */
public final class RefusalsTest {
    private static final List<String> ALL = all();

    public static void main(String[] args) {
        districts();
        days();
        texts();
        sheets();
        slots();
        rows();
        Due.end();
    }

    private static void districts() {
        refused("2: BAD", Scenes.NEW, "district(-1, 0) = BAD", "district(6, 0) = BAD", "district(0, -1) = BAD", "district(0, 10) = BAD");
        refused("2: BAD", Scenes.FEW, "district(-1, 0) = BAD", "district(6, 0) = BAD", "district(0, -1) = BAD", "district(0, 10) = BAD",
                "district(MIN, 0) = BAD", "district(MAX, 0) = BAD", "district(0, MIN) = BAD", "district(0, MAX) = BAD");
        refused("2: FULL", Scenes.BRIM, "district(0, 0) = FULL", "district(5, 9) = FULL");
        refused("2: BAD ahead of FULL", Scenes.BRIM, "district(-1, 0) = BAD", "district(6, 0) = BAD", "district(0, -1) = BAD",
                "district(0, 10) = BAD");
        refused("3: BAD", Scenes.NEW, "told(0, 0) = BAD");
        refused("3: BAD", Scenes.FEW, "told(-1, 0) = BAD", "told(3, 0) = BAD", "told(0, -1) = BAD", "told(0, 10) = BAD",
                "told(MIN, 0) = BAD", "told(MAX, 0) = BAD", "told(2, MIN) = BAD", "told(2, MAX) = BAD");
        refused("3: BAD", Scenes.BRIM, "told(6, 0) = BAD");
        refused("4: BAD", Scenes.NEW, "births(0, 0) = BAD");
        refused("4: BAD", Scenes.FEW, "births(-1, 0) = BAD", "births(3, 0) = BAD", "births(0, -1) = BAD", "births(0, 10) = BAD",
                "births(MAX, 0) = BAD", "births(2, MIN) = BAD", "births(2, MAX) = BAD");
        refused("4: BAD", Scenes.BRIM, "births(6, 0) = BAD");
        refused("5: BAD", Scenes.NEW, "as(0, 0) = BAD");
        refused("5: BAD", Scenes.FEW, "as(-1, 0) = BAD", "as(3, 0) = BAD", "as(0, -1) = BAD", "as(0, 6) = BAD", "as(1, MIN) = BAD",
                "as(1, MAX) = BAD");
        refused("5: BAD", Scenes.BRIM, "as(6, 0) = BAD");
        refused("5: KIND", Scenes.FEW, "as(0, 1) = KIND", "as(0, 3) = KIND", "as(0, 5) = KIND", "as(1, 2) = KIND", "as(1, 3) = KIND",
                "as(1, 5) = KIND", "as(2, 1) = KIND", "as(2, 4) = KIND");
        refused("6: BAD", Scenes.NEW, "turns(0, 0) = BAD");
        refused("6: BAD", Scenes.FEW, "turns(-1, 0) = BAD", "turns(3, 0) = BAD", "turns(0, -1) = BAD", "turns(0, 6) = BAD",
                "turns(0, MIN) = BAD", "turns(0, MAX) = BAD");
        refused("6: BAD", Scenes.BRIM, "turns(6, 0) = BAD");
        refused("7: BAD", Scenes.NEW, "set(0, 1, 0) = BAD", "set(0, 2, 7) = BAD", "set(0, 3, 0) = BAD");
        refused("7: BAD", Scenes.FEW, "set(-1, 1, 5) = BAD", "set(3, 1, 5) = BAD", "set(0, -1, 5) = BAD", "set(0, 0, 5) = BAD",
                "set(0, 4, 5) = BAD", "set(0, MIN, 5) = BAD", "set(0, MAX, 5) = BAD");
        refused("7: BAD: RATE", Scenes.FEW, "set(0, 1, -1) = BAD", "set(0, 1, 10) = BAD", "set(0, 1, MIN) = BAD", "set(0, 1, MAX) = BAD");
        refused("7: BAD: LONG", Scenes.FEW, "set(0, 2, 1) = BAD", "set(0, 2, 61) = BAD", "set(0, 2, MIN) = BAD", "set(0, 2, MAX) = BAD");
        refused("7: BAD: PURSE", Scenes.FEW, "set(0, 3, -100000) = BAD", "set(0, 3, 100000) = BAD", "set(0, 3, MIN) = BAD",
                "set(0, 3, MAX) = BAD");
        refused("7: BAD", Scenes.BRIM, "set(6, 1, 5) = BAD");
        refused("8: BAD", Scenes.NEW, "hide(0) = BAD");
        refused("8: BAD", Scenes.FEW, "hide(-1) = BAD", "hide(3) = BAD", "hide(MIN) = BAD", "hide(MAX) = BAD");
        refused("8: NO", Scenes.FEW, "hide(2) = NO");
        refused("9: BAD", Scenes.FEW, "rule(-1, 0) = BAD", "rule(3, 0) = BAD", "rule(MIN, 0) = BAD", "rule(MAX, 0) = BAD");
        refused("9: BAD: WAGE", Scenes.FEW, "rule(0, -1) = BAD", "rule(0, 1000) = BAD", "rule(0, MIN) = BAD", "rule(0, MAX) = BAD");
        refused("9: BAD: RENT", Scenes.FEW, "rule(1, -1) = BAD", "rule(1, 100) = BAD", "rule(1, MIN) = BAD", "rule(1, MAX) = BAD");
        refused("9: BAD: FAIR", Scenes.FEW, "rule(2, -1) = BAD", "rule(2, 60) = BAD", "rule(2, MIN) = BAD", "rule(2, MAX) = BAD");
        refused("10: BAD", Scenes.FEW, "deal(0) = BAD", "deal(7) = BAD", "deal(-1) = BAD", "deal(MIN) = BAD", "deal(MAX) = BAD");
        refused("10: BAD, without room", Scenes.BRIM, "deal(0) = BAD", "deal(7) = BAD");
        refused("10: no room is no draw", Scenes.BRIM, "deal(1) = 0", "deal(6) = 0");
    }

    private static void days() {
        refused("12: BAD", Scenes.FEW, "days(0) = BAD", "days(301) = BAD", "days(-1) = BAD", "days(MIN) = BAD", "days(MAX) = BAD");
        refused("13: BAD", Scenes.NEW, "behind(0, 0, 0) = BAD");
        refused("13: BAD", Scenes.FEW, "behind(-1, 0, 0) = BAD", "behind(3, 0, 0) = BAD", "behind(0, -1, 0) = BAD",
                "behind(0, 301, 0) = BAD", "behind(0, 0, -1) = BAD", "behind(0, 0, 5) = BAD", "behind(0, MIN, 0) = BAD",
                "behind(0, MAX, 0) = BAD", "behind(0, 0, MIN) = BAD", "behind(0, 0, MAX) = BAD");
        refused("14: BAD", Scenes.NEW, "meets(0, 0) = BAD");
        refused("14: BAD", Scenes.FEW, "meets(-1, 0) = BAD", "meets(0, -1) = BAD", "meets(3, 0) = BAD", "meets(0, 3) = BAD",
                "meets(MIN, 0) = BAD", "meets(0, MAX) = BAD");
        refused("15: BAD", Scenes.NEW, "sundays(0, 0) = BAD");
        refused("15: BAD", Scenes.FEW, "sundays(-1, 0) = BAD", "sundays(3, 0) = BAD", "sundays(0, -1) = BAD", "sundays(0, 301) = BAD",
                "sundays(0, MIN) = BAD", "sundays(0, MAX) = BAD");
        refused("16: BAD", Scenes.NEW, "trader(0, 0) = BAD");
        refused("16: BAD", Scenes.FEW, "trader(-1, 0) = BAD", "trader(3, 0) = BAD", "trader(0, -1) = BAD", "trader(0, 101) = BAD",
                "trader(0, MIN) = BAD", "trader(0, MAX) = BAD");
        refused("17: BAD ahead of NONE", Scenes.NEW, "richest(-1) = BAD", "richest(301) = BAD");
        refused("17: NONE", Scenes.NEW, "richest(0) = NONE", "richest(300) = NONE");
        refused("17: BAD", Scenes.FEW, "richest(-1) = BAD", "richest(301) = BAD", "richest(MIN) = BAD", "richest(MAX) = BAD");
        refused("18: BAD", Scenes.NEW, "brings(0, 0) = BAD");
        refused("18: BAD", Scenes.FEW, "brings(-1, 0) = BAD", "brings(3, 0) = BAD", "brings(0, -1) = BAD", "brings(0, 301) = BAD");
        refused("18: BAD ahead of NO", Scenes.FEW, "brings(2, -1) = BAD", "brings(2, 301) = BAD");
        refused("18: NO", Scenes.FEW, "brings(2, 0) = NO", "brings(2, 300) = NO");
        refused("19: BAD", Scenes.FEW, "rated(-1, 0, 0) = BAD", "rated(4, 0, 0) = BAD", "rated(0, -1, 0) = BAD", "rated(0, 3, 0) = BAD",
                "rated(0, 0, -1) = BAD", "rated(0, 0, 2) = BAD", "rated(MAX, 0, 0) = BAD", "rated(0, 0, MIN) = BAD");
        refused("19: BAD ahead of NOTHING", Scenes.FEW, "rated(2, -1, 0) = BAD", "rated(2, 3, 0) = BAD", "rated(2, 0, -1) = BAD",
                "rated(2, 0, 2) = BAD");
        refused("19: NOTHING", Scenes.FEW, "rated(2, 0, 0) = NOTHING", "rated(2, 2, 1) = NOTHING");
        refused("Terms 3: nothing changes", Scenes.FEW, "behind(0, 300, 4)", "meets(0, 1)", "meets(2, 2)", "sundays(1, 300)",
                "trader(1, 100)", "richest(300)", "brings(0, 300)", "rated(0, 0, 0)", "rated(1, 1, 1)", "reads(0, 0)",
                "reads(3, 0) = NONE", "fine()", "births(1, 9)", "ask(0, 0)");
    }

    private static void texts() {
        refused("21: FULL, a 97th byte and more", Scenes.BRIM, "feed(0, 0, 0) = FULL");
        refused("21: FULL, a 97th byte", Scenes.BRIM_85, "feed(0, 0, 0) = FULL");
        refused("22: BAD", Scenes.NEW, "trim(1) = BAD", "trim(-1) = BAD");
        refused("22: BAD", Scenes.FEW, "trim(-1) = BAD", "trim(11) = BAD", "trim(MIN) = BAD", "trim(MAX) = BAD");
        refused("22: BAD", Scenes.BRIM, "trim(97) = BAD");
        usedUp("23: FAULT", Scenes.FEW_WITH_FAULT, "text() = -105");
        usedUp("23: FAULT of an empty tape", Scenes.joined(Scenes.FEW, "trim(0) = 0"), "text() = -100");
        usedUp("23: FULL", Scenes.BRIM, "text() = FULL");
        usedUp("23: FAULT ahead of FULL", Scenes.BRIM_WITH_FAULT, "text() = -107");
        refused("24: BAD", Scenes.NEW, "textTold(0, 0) = BAD");
        refused("24: BAD", Scenes.FEW, "textTold(-1, 0) = BAD", "textTold(3, 0) = BAD", "textTold(0, -1) = BAD",
                "textTold(0, 2) = BAD", "textTold(MIN, 0) = BAD", "textTold(MAX, 0) = BAD", "textTold(0, MAX) = BAD");
        refused("24: BAD", Scenes.BRIM, "textTold(14, 0) = BAD");
        refused("25: BAD", Scenes.FEW, "why(-1) = BAD", "why(3) = BAD", "why(MIN) = BAD", "why(MAX) = BAD");
        refused("25: NONE", Scenes.NEW, "why(0) = NONE", "why(1) = NONE", "why(2) = NONE");
        refused("25: NONE", Scenes.BRIM, "why(0) = NONE");
    }

    private static void sheets() {
        refused("26: BAD: sheet", Scenes.FEW, "sheet(-1, 0, 1) = BAD", "sheet(4, 0, 1) = BAD", "sheet(-1, -1, 1) = BAD",
                "sheet(4, -1, 1) = BAD", "sheet(MAX, 0, 1) = BAD");
        refused("26: BAD: sort", Scenes.FEW, "sheet(0, -2, 1) = BAD", "sheet(0, 2, 1) = BAD", "sheet(0, MIN, 1) = BAD",
                "sheet(0, MAX, 1) = BAD");
        refused("26: BAD: n above 24", Scenes.FEW, "sheet(0, 0, 25) = BAD", "sheet(0, 1, 25) = BAD", "sheet(1, 1, MAX) = BAD",
                "sheet(2, 0, 25) = BAD");
        refused("26: SIZE", Scenes.FEW, "sheet(0, 0, -1) = SIZE", "sheet(1, 1, -1) = SIZE", "sheet(2, 0, -1) = SIZE",
                "sheet(0, 0, MIN) = SIZE");
        refused("26: BAD ahead of SIZE", Scenes.FEW, "sheet(-1, 0, -1) = BAD", "sheet(4, 0, -1) = BAD", "sheet(0, -2, -1) = BAD",
                "sheet(0, 2, -1) = BAD");
        refused("27: BAD: sheet", Scenes.FEW, "mark(-1, 0, 1) = BAD", "mark(4, 0, 1) = BAD", "mark(4, 99, NONE) = BAD");
        refused("27: NOTHING", Scenes.FEW, "mark(2, 0, 1) = NOTHING");
        refused("27: NOTHING ahead of INDEX, KIND, BAD", Scenes.FEW, "mark(2, -1, 1) = NOTHING", "mark(2, 0, NONE) = NOTHING",
                "mark(2, 0, 100000) = NOTHING");
        refused("27: INDEX", Scenes.FEW, "mark(0, -1, 1) = INDEX", "mark(0, 5, 1) = INDEX", "mark(1, -1, 1) = INDEX",
                "mark(1, 4, 1) = INDEX", "mark(3, 0, 1) = INDEX", "mark(0, MIN, 1) = INDEX", "mark(0, MAX, 1) = INDEX");
        refused("27: INDEX", Scenes.BRIM, "mark(0, 24, 1) = INDEX");
        refused("27: INDEX ahead of KIND", Scenes.FEW, "mark(0, 5, NONE) = INDEX", "mark(0, -1, NONE) = INDEX");
        refused("27: INDEX ahead of BAD", Scenes.FEW, "mark(1, 4, 100000) = INDEX", "mark(3, 0, MIN) = INDEX");
        refused("27: KIND", Scenes.FEW, "mark(0, 0, NONE) = KIND", "mark(0, 4, NONE) = KIND");
        refused("27: BAD: v of floats", Scenes.FEW, "mark(1, 0, 100000) = BAD", "mark(1, 2, -100000) = BAD", "mark(1, 3, MAX) = BAD",
                "mark(1, 3, MIN) = BAD", "mark(1, 3, BAD) = BAD");
        refused("28: BAD", Scenes.FEW, "pour(-1) = BAD", "pour(4) = BAD", "pour(MIN) = BAD", "pour(MAX) = BAD");
        refused("28: NOTHING", Scenes.FEW, "pour(2) = NOTHING");
        refused("29: BAD", Scenes.NEW, "reads(0, 0) = BAD");
        refused("29: BAD", Scenes.FEW, "reads(-1, 0) = BAD", "reads(4, 0) = BAD", "reads(0, -1) = BAD", "reads(0, 3) = BAD");
        refused("29: BAD ahead of NOTHING", Scenes.FEW, "reads(2, -1) = BAD", "reads(2, 3) = BAD");
        refused("29: NOTHING", Scenes.FEW, "reads(2, 0) = NOTHING");
        refused("30: BAD", Scenes.FEW, "copy(-1, 0, 1, 0, 1) = BAD", "copy(4, 0, 1, 0, 1) = BAD", "copy(1, 0, -1, 0, 1) = BAD",
                "copy(1, 0, 4, 0, 1) = BAD");
        refused("30: BAD ahead of NOTHING", Scenes.FEW, "copy(2, 0, 4, 0, 1) = BAD", "copy(-1, 0, 2, 0, 1) = BAD");
        refused("30: NOTHING", Scenes.FEW, "copy(2, 0, 1, 0, 1) = NOTHING", "copy(1, 0, 2, 0, 1) = NOTHING",
                "copy(2, 0, 2, 0, 0) = NOTHING");
        refused("30: NOTHING ahead of KIND and INDEX", Scenes.FEW, "copy(0, 9, 2, 0, 1) = NOTHING", "copy(2, 0, 0, 0, -1) = NOTHING");
        refused("30: KIND", Scenes.FEW, "copy(0, 0, 1, 0, 1) = KIND", "copy(1, 0, 0, 0, 1) = KIND", "copy(0, 0, 1, 0, 0) = KIND");
        refused("30: KIND ahead of INDEX", Scenes.FEW, "copy(0, 9, 1, 0, 1) = KIND", "copy(0, 0, 1, 0, -1) = KIND",
                "copy(0, 0, 3, 0, 1) = KIND");
        refused("30: INDEX: place", Scenes.FEW, "copy(0, -1, 0, 0, 1) = INDEX", "copy(0, 5, 0, 0, 1) = INDEX",
                "copy(0, 3, 0, 0, 3) = INDEX", "copy(0, MIN, 0, 0, 1) = INDEX", "copy(0, MAX, 0, 0, 1) = INDEX");
        refused("30: INDEX: at", Scenes.FEW, "copy(0, 0, 0, -1, 1) = INDEX", "copy(0, 0, 0, 5, 1) = INDEX",
                "copy(0, 0, 0, 3, 3) = INDEX", "copy(0, 0, 0, MIN, 1) = INDEX", "copy(0, 0, 0, MAX, 1) = INDEX",
                "copy(1, 0, 3, 0, 1) = INDEX", "copy(3, 0, 1, 0, 1) = INDEX");
        refused("30: INDEX: many", Scenes.FEW, "copy(0, 0, 0, 0, 6) = INDEX", "copy(1, 0, 1, 0, 5) = INDEX",
                "copy(0, 1, 0, 1, MAX) = INDEX", "copy(0, MAX, 0, MAX, MAX) = INDEX");
        refused("30: INDEX: many below 0, too", Scenes.FEW, "copy(0, 0, 0, 0, -1) = INDEX", "copy(0, 5, 0, 5, -1) = INDEX",
                "copy(0, 2, 0, 2, MIN) = INDEX");
        refused("30: INDEX: many 0, beyond the place behind the last one", Scenes.FEW, "copy(0, 6, 0, 0, 0) = INDEX",
                "copy(0, 0, 0, 6, 0) = INDEX", "copy(0, -1, 0, 0, 0) = INDEX", "copy(0, 0, 0, -1, 0) = INDEX",
                "copy(3, 1, 3, 0, 0) = INDEX");
        refused("30: many 0 is not refused, and nothing comes", Scenes.FEW, "copy(0, 5, 0, 5, 0) = 0", "copy(0, 0, 0, 0, 0) = 0",
                "copy(3, 0, 1, 4, 0) = 0", "copy(1, 4, 3, 0, 0) = 0");
    }

    private static void slots() {
        refused("31: BAD: slot", Scenes.FEW, "lay(-1, 3, 1) = BAD", "lay(5, 3, 1) = BAD", "lay(-1, 0, 0) = BAD", "lay(5, 0, 0) = BAD");
        refused("31: BAD: thing", Scenes.FEW, "lay(0, -1, 0) = BAD", "lay(0, 4, 0) = BAD", "lay(2, MIN, 0) = BAD", "lay(2, MAX, 0) = BAD");
        refused("31: BAD: k, a DISTRICT", Scenes.FEW, "lay(0, 1, -1) = BAD", "lay(0, 1, 3) = BAD", "lay(2, 1, MAX) = BAD");
        refused("31: BAD: k, a DISTRICT", Scenes.NEW, "lay(0, 1, 0) = BAD");
        refused("31: BAD: k, a DISTRICT", Scenes.BRIM, "lay(0, 1, 6) = BAD");
        refused("31: BAD: k, a SHEET", Scenes.FEW, "lay(1, 2, -1) = BAD", "lay(1, 2, 4) = BAD", "lay(2, 2, MIN) = BAD");
        refused("31: NOTHING", Scenes.FEW, "lay(0, 2, 2) = NOTHING", "lay(1, 2, 2) = NOTHING", "lay(3, 2, 2) = NOTHING");
        refused("31: BAD ahead of NOTHING", Scenes.FEW, "lay(5, 2, 2) = BAD", "lay(-1, 2, 2) = BAD");
        refused("32: BAD", Scenes.FEW, "ask(-1, 0) = BAD", "ask(5, 0) = BAD", "ask(0, -1) = BAD", "ask(0, 6) = BAD", "ask(0, MAX) = BAD");
        refused("32: BAD ahead of NOTHING", Scenes.FEW, "ask(3, -1) = BAD", "ask(3, 6) = BAD");
        refused("32: BAD ahead of KIND", Scenes.FEW, "ask(1, 6) = BAD", "ask(2, -1) = BAD");
        refused("32: NOTHING", Scenes.FEW, "ask(3, 0) = NOTHING", "ask(4, 5) = NOTHING");
        refused("32: KIND: it is no DISTRICT", Scenes.FEW, "ask(1, 0) = KIND", "ask(2, 0) = KIND");
        refused("32: KIND: not of that KIND, nor of one under it", Scenes.FEW, "ask(0, 1) = KIND", "ask(0, 3) = KIND", "ask(0, 5) = KIND");
        refused("33: BAD: slot", Scenes.FEW, "item(-1, 0) = BAD", "item(5, 0) = BAD", "item(MAX, -1) = BAD");
        refused("33: NOTHING", Scenes.FEW, "item(3, 0) = NOTHING");
        refused("33: NOTHING ahead of INDEX", Scenes.FEW, "item(3, -1) = NOTHING", "item(4, 24) = NOTHING");
        refused("33: KIND: it is no SHEET", Scenes.FEW, "item(0, 0) = KIND", "item(2, 0) = KIND");
        refused("33: KIND ahead of INDEX", Scenes.FEW, "item(0, -1) = KIND", "item(2, 99) = KIND");
        refused("33: INDEX", Scenes.FEW, "item(1, -1) = INDEX", "item(1, 4) = INDEX", "item(1, MIN) = INDEX", "item(1, MAX) = INDEX");
        refused("33: INDEX of a row of no places", Scenes.joined(Scenes.FEW, "lay(3, 2, 3) = 0"), "item(3, 0) = INDEX", "item(3, -1) = INDEX");
        refused("33: KIND: NO NUMBER", Scenes.FEW, "item(1, 2) = KIND");
        refused("34: BAD: slot", Scenes.FEW, "rest(-1, 1) = BAD", "rest(5, 1) = BAD", "rest(5, 0) = BAD");
        refused("34: NOTHING", Scenes.FEW, "rest(3, 1) = NOTHING");
        refused("34: NOTHING ahead of NO", Scenes.FEW, "rest(3, 0) = NOTHING");
        refused("34: KIND: it is no number", Scenes.FEW, "rest(0, 1) = KIND", "rest(1, 1) = KIND");
        refused("34: KIND ahead of NO", Scenes.FEW, "rest(0, 0) = KIND", "rest(1, 0) = KIND");
        refused("34: NO: n is 0", Scenes.FEW, "rest(2, 0) = NO");
    }

    private static void rows() {
        refused("35: FULL", Scenes.BRIM, "tell(0) = FULL", "tell(1) = FULL");
        for (String row : new String[] {"check(0) = BAD", "check(31) = BAD", "check(-1) = BAD", "check(MIN) = BAD",
            "check(MAX) = BAD", "check(2) = 0", "check(1) = 3", "check(3) = 5"}) {
            alike("36: none wait then, and nothing else changes", Scenes.FEW, row, Scenes.FEW_NONE_WAIT);
        }
        String[] oneWaits = {"tell(5) = 1"};
        for (String row : new String[] {"check(0) = BAD", "check(31) = BAD", "check(1) = NO", "check(30) = NO"}) {
            alike("36: none wait then, BAD ahead of NO", oneWaits, row, Scenes.NEW);
        }
        refused("36: NO", Scenes.NEW, "check(1) = NO", "check(30) = NO");
        refused("36: BAD ahead of NO", Scenes.NEW, "check(0) = BAD", "check(31) = BAD");
        refused("38: NO", Scenes.NEW, "back() = NO");
        refused("38: NO", new String[] {"deal(3) = 3", "days(5)", "tell(4)", "<fine> = 4"}, "back() = NO");
        refused("39: BAD", Scenes.FEW, "count(-1) = BAD", "count(10) = BAD", "count(MIN) = BAD", "count(MAX) = BAD");
    }

    /** Each row is called on an object of its own, and nothing changes. */
    private static void refused(String name, String[] scene, String... rows) {
        for (String row : rows) {
            alike(name, scene, row, scene);
        }
    }

    /** The act changes nothing but that the tape is used up. */
    private static void usedUp(String name, String[] scene, String row) {
        alike(name, scene, row, Scenes.joined(scene, "trim(0) = 0"));
    }

    private static void alike(String name, String[] scene, String row, String[] other) {
        Script called = new Script(name, scene);
        Script twin = new Script(name, other);
        called.run(row);
        for (String call : ALL) {
            Due.is(name + ": behind " + row + ": " + call, called.answer(call), twin.answer(call));
        }
    }

    /** All that can be asked: what changes nothing first, what uses up the tape, the slots and all else last. */
    private static List<String> all() {
        List<String> calls = new ArrayList<>();
        told(calls);
        for (int text = 0; text < 14; text++) {
            calls.add("textTold(" + text + ", 0)");
            calls.add("textTold(" + text + ", 1)");
        }
        for (int slot = 0; slot < 5; slot++) {
            calls.add("ask(" + slot + ", 0)");
            calls.add("rest(" + slot + ", 100003)");
            for (int place = 0; place <= 4; place++) {
                calls.add("item(" + slot + ", " + place + ")");
            }
        }
        for (int sheet = 0; sheet < 4; sheet++) {
            calls.add("lay(4, 2, " + sheet + ")");
            for (int place = 0; place <= 24; place++) {
                calls.add("item(4, " + place + ")");
            }
            calls.add("mark(" + sheet + ", 0, NONE)");
        }
        calls.add("check(30)");
        calls.add("text()");
        calls.add("fine()");
        calls.add("back()");
        told(calls);
        calls.add("days(9)");
        calls.add("count(5)");
        calls.add("count(9)");
        return calls;
    }

    private static void told(List<String> calls) {
        for (int what = 0; what <= 9; what++) {
            calls.add("count(" + what + ")");
            for (int district = 0; district < 6; district++) {
                calls.add("told(" + district + ", " + what + ")");
            }
        }
        for (int key = 0; key < 3; key++) {
            calls.add("why(" + key + ")");
        }
        calls.add("fine()");
    }
}
