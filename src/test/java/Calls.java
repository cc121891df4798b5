/** Calls by their names. */
final class Calls {
    /** Each call with how many arguments it has. */
    static final String FACE = "district:2 told:2 births:2 as:2 turns:2 set:3 hide:1 rule:2 deal:1 seed:1 days:1 "
            + "behind:3 meets:2 sundays:2 trader:2 richest:1 brings:2 rated:3 fine:0 feed:3 trim:1 text:0 textTold:2 "
            + "why:1 sheet:3 mark:3 pour:1 reads:2 copy:5 lay:3 ask:2 item:2 rest:2 tell:1 check:1 keep:0 back:0 count:1";

    private Calls() {
    }

    static int on(BirthWeeks w, String name, int... a) {
        switch (name) {
            case "district": return w.district(a[0], a[1]);
            case "told": return w.told(a[0], a[1]);
            case "births": return w.births(a[0], a[1]);
            case "as": return w.as(a[0], a[1]);
            case "turns": return w.turns(a[0], a[1]);
            case "set": return w.set(a[0], a[1], a[2]);
            case "hide": return w.hide(a[0]);
            case "rule": return w.rule(a[0], a[1]);
            case "deal": return w.deal(a[0]);
            case "seed": return w.seed(a[0]);
            case "days": return w.days(a[0]);
            case "behind": return w.behind(a[0], a[1], a[2]);
            case "meets": return w.meets(a[0], a[1]);
            case "sundays": return w.sundays(a[0], a[1]);
            case "trader": return w.trader(a[0], a[1]);
            case "richest": return w.richest(a[0]);
            case "brings": return w.brings(a[0], a[1]);
            case "rated": return w.rated(a[0], a[1], a[2]);
            case "fine": return w.fine();
            case "feed": return w.feed(a[0], a[1], a[2]);
            case "trim": return w.trim(a[0]);
            case "text": return w.text();
            case "textTold": return w.textTold(a[0], a[1]);
            case "why": return w.why(a[0]);
            case "sheet": return w.sheet(a[0], a[1], a[2]);
            case "mark": return w.mark(a[0], a[1], a[2]);
            case "pour": return w.pour(a[0]);
            case "reads": return w.reads(a[0], a[1]);
            case "copy": return w.copy(a[0], a[1], a[2], a[3], a[4]);
            case "lay": return w.lay(a[0], a[1], a[2]);
            case "ask": return w.ask(a[0], a[1]);
            case "item": return w.item(a[0], a[1]);
            case "rest": return w.rest(a[0], a[1]);
            case "tell": return w.tell(a[0]);
            case "check": return w.check(a[0]);
            case "keep": return w.keep();
            case "back": return w.back();
            case "count": return w.count(a[0]);
            default: throw new IllegalArgumentException("no call " + name);
        }
    }
}
