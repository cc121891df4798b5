/**
 * Districts whose weeks have as many days as children were born in the last one.
 * What each call must answer stands in the document, as promises 1 to 39.
 *
 * <p>All rows are made in the constructors and used again, so that no call makes an object.
 */
public final class BirthWeeks {
    public static final int BAD = -1000000001, NO = -1000000002, FULL = -1000000003, NONE = -1000000005, NOTHING = -1000000011, KIND = -1000000012, INDEX = -1000000013, SIZE = -1000000014;

    private static final int MOST_DISTRICTS = 6;
    private static final int MOST_TEXTS = 14;
    private static final int MOST_BYTES = 96;
    private static final int MOST_PLACES = 24;
    private static final int MOST_WAITING = 60;
    private static final int SHEETS = 4;
    private static final int SLOTS = 5;

    private static final int QUIET = 1;
    private static final int FERTILE = 2;
    private static final int SILENT = 3;
    private static final int FEAST = 4;
    private static final int EVEN = 5;
    /** The kind above each kind; -1: none. */
    private static final int[] ABOVE = {-1, 0, 0, 1, 2, 0};

    private static final int TOP_RATE = 9;
    private static final int LEAST_LENGTH = 2;
    private static final int TOP_LENGTH = 60;
    private static final int TOP_PURSE = 99999;
    private static final int TOP_DAY = 99999;
    private static final int TOP_BIRTHS = 30;
    private static final int TOP_WAGE = 9999;

    private static final int LONG_THOUGHT = 300;
    private static final int TRADER_THOUGHT = 100;
    private static final int MEETING_THOUGHT = 200;
    private static final int CHECKED_DAYS = 30;
    private static final int RATED_WEEKS = 6;

    private static final int KEY_BIRTH = 0;
    private static final int KEY_WAGE = 1;
    private static final int KEY_FINE = 2;
    private static final int KEYS = 3;

    private static final int MISSING = -1;
    private static final int SHORTS = 0;
    private static final int FLOATS = 1;

    private static final int HOLDS_NOTHING = 0;
    private static final int HOLDS_DISTRICT = 1;
    private static final int HOLDS_SHEET = 2;
    private static final int HOLDS_NUMBER = 3;

    /** As many bits as there may be districts: all of them live a day. */
    private static final int ALL = 63;

    private final Law[] laws;
    private final World now;
    private final World image;
    private final World thought;
    private boolean imageKept = false;

    private final byte[] tape = new byte[MOST_BYTES];
    private int tapeLength = 0;
    private final Reader reader = new Reader();
    private final Law draft = new Law();

    private final Sheet[] sheets = new Sheet[SHEETS];
    private final Slot[] slots = new Slot[SLOTS];

    private final int[] waiting = new int[MOST_WAITING];
    private int waitingMany = 0;

    private int[] seen = new int[MOST_DISTRICTS];
    private int[] seenNext = new int[MOST_DISTRICTS];

    public BirthWeeks() {
        Law[] all = new Law[MOST_TEXTS];
        for (int i = 0; i < all.length; i++) {
            all[i] = new Law();
        }
        for (int i = 0; i < sheets.length; i++) {
            sheets[i] = new Sheet();
        }
        for (int i = 0; i < slots.length; i++) {
            slots[i] = new Slot();
        }
        laws = all;
        now = new World(all);
        image = new World(all);
        thought = new World(all);
    }

    // ---- districts

    public int district(int kind, int rate) {
        if (!isKind(kind) || !within(rate, 0, TOP_RATE)) {
            return BAD;
        }
        if (now.many >= MOST_DISTRICTS) {
            return FULL;
        }
        now.addDistrict(kind, rate);
        return now.many - 1;
    }

    public int told(int district, int what) {
        if (!now.has(district)) {
            return BAD;
        }
        District d = now.districts[district];
        switch (what) {
            case 0: return d.kind;
            case 1: return d.rate;
            case 2: return d.week;
            case 3: return d.length;
            case 4: return d.place;
            case 5: return d.born;
            case 6: return d.hidden;
            case 7: return d.purse;
            case 8: return d.worth();
            case 9: return now.fairAt(district);
            default: return BAD;
        }
    }

    public int births(int district, int x) {
        if (!now.has(district) || !within(x, 0, TOP_RATE)) {
            return BAD;
        }
        return now.birthsOf(now.districts[district], x);
    }

    public int as(int district, int kind) {
        if (!now.has(district) || !isKind(kind)) {
            return BAD;
        }
        District d = now.districts[district];
        return d.isOf(kind) ? d.rate : KIND;
    }

    public int turns(int district, int kind) {
        if (!now.has(district) || !isKind(kind)) {
            return BAD;
        }
        District d = now.districts[district];
        int was = d.kind;
        d.kind = kind;
        return was;
    }

    public int set(int district, int what, int v) {
        if (!now.has(district)) {
            return BAD;
        }
        District d = now.districts[district];
        int was = BAD;
        if (what == 1 && within(v, 0, TOP_RATE)) {
            was = d.rate;
            d.rate = v;
        } else if (what == 2 && within(v, LEAST_LENGTH, TOP_LENGTH)) {
            was = d.length;
            d.length = v;
            d.place = 0;
        } else if (what == 3 && within(v, -TOP_PURSE, TOP_PURSE)) {
            was = d.purse;
            d.purse = v;
        }
        return was;
    }

    public int hide(int district) {
        if (!now.has(district)) {
            return BAD;
        }
        District d = now.districts[district];
        if (d.born == 0) {
            return NO;
        }
        d.hideOne();
        return d.hidden;
    }

    public int rule(int what, int v) {
        int was = BAD;
        if (what == 0 && within(v, 0, 999)) {
            was = now.wage;
            now.wage = v;
        } else if (what == 1 && within(v, 0, 99)) {
            was = now.rent;
            now.rent = v;
        } else if (what == 2 && within(v, 0, 59)) {
            was = now.fair;
            now.fair = v;
        }
        return was;
    }

    public int deal(int n) {
        if (!within(n, 1, MOST_DISTRICTS)) {
            return BAD;
        }
        int came = Math.min(n, MOST_DISTRICTS - now.many);
        for (int i = 0; i < came; i++) {
            int kind = now.draw() % 6;
            int rate = now.draw() % 10;
            now.addDistrict(kind, rate);
        }
        return came;
    }

    public int seed(int v) {
        int was = now.z;
        now.z = v;
        return was;
    }

    // ---- days

    public int days(int n) {
        if (!within(n, 1, LONG_THOUGHT)) {
            return BAD;
        }
        int room = Math.min(n, TOP_DAY - now.day);
        int began = 0;
        for (int i = 0; i < room; i++) {
            began += now.liveDay(ALL);
        }
        return began;
    }

    public int behind(int district, int n, int what) {
        if (!now.has(district) || !within(n, 0, LONG_THOUGHT) || !within(what, 0, 4)) {
            return BAD;
        }
        thinkFromNow();
        thinkOn(n, only(district));
        District d = thought.districts[district];
        switch (what) {
            case 0: return d.week;
            case 1: return d.length;
            case 2: return d.place;
            case 3: return d.born;
            default: return d.purse;
        }
    }

    public int meets(int one, int other) {
        if (!now.has(one) || !now.has(other)) {
            return BAD;
        }
        thinkFromNow();
        for (int day = 0; day <= MEETING_THOUGHT; day++) {
            if (thought.fairAt(one) == 1 && thought.fairAt(other) == 1) {
                return day;
            }
            thought.liveDay(only(one) | only(other));
        }
        return NONE;
    }

    public int sundays(int district, int n) {
        if (!now.has(district) || !within(n, 0, LONG_THOUGHT)) {
            return BAD;
        }
        thinkFromNow();
        int found = 0;
        for (int day = 1; day <= n; day++) {
            // a place is 0 behind a day only where a week begins with it
            found += thought.liveDay(only(district));
        }
        return found;
    }

    public int trader(int from, int n) {
        if (!now.has(from) || !within(n, 0, TRADER_THOUGHT)) {
            return BAD;
        }
        thinkFromNow();
        for (int i = 0; i < seen.length; i++) {
            seen[i] = i == from ? thought.fairAt(i) : NONE;
        }
        for (int day = 1; day <= n; day++) {
            thought.liveDay(ALL);
            tradeOneDay();
        }
        return seen[mostSeenAt()];
    }

    public int richest(int n) {
        if (!within(n, 0, LONG_THOUGHT)) {
            return BAD;
        }
        if (now.many == 0) {
            return NONE;
        }
        thinkFromNow();
        thinkOn(n, ALL);
        int best = 0;
        for (int i = 1; i < thought.many; i++) {
            if (thought.districts[i].purse > thought.districts[best].purse) {
                best = i;
            }
        }
        return best;
    }

    public int brings(int district, int n) {
        if (!now.has(district) || !within(n, 0, LONG_THOUGHT)) {
            return BAD;
        }
        if (now.districts[district].born == 0) {
            return NO;
        }
        thinkFromNow();
        thinkOn(n, only(district));
        int asItIs = thought.districts[district].purse;
        thinkFromNow();
        thought.districts[district].hideOne();
        thinkOn(n, only(district));
        return thought.districts[district].purse - asItIs;
    }

    public int rated(int sheet, int district, int what) {
        if (!isSheet(sheet) || !now.has(district) || !within(what, 0, 1)) {
            return BAD;
        }
        Sheet row = sheets[sheet];
        if (row.isMissing()) {
            return NOTHING;
        }
        int bestRate = 0;
        int least = differences(row, district, 0);
        for (int rate = 1; rate <= TOP_RATE; rate++) {
            int found = differences(row, district, rate);
            if (found < least) {
                least = found;
                bestRate = rate;
            }
        }
        return what == 0 ? bestRate : least;
    }

    public int fine() {
        Law law = now.lawFor(KEY_FINE);
        if (law == null) {
            return 0;
        }
        return now.reckoner.gives(law, now.day, now.bornOfAll(), 0);
    }

    // ---- texts

    public int feed(int a, int b, int c) {
        if (tapeLength > MOST_BYTES - 12) {
            return FULL;
        }
        feedOne(a);
        feedOne(b);
        feedOne(c);
        return tapeLength;
    }

    public int trim(int n) {
        if (!within(n, 0, tapeLength)) {
            return BAD;
        }
        tapeLength = n;
        return n;
    }

    public int text() {
        boolean whole = reader.understands(tape, tapeLength, draft);
        tapeLength = 0;
        if (!whole) {
            return -100 - reader.start;
        }
        if (now.texts >= MOST_TEXTS) {
            return FULL;
        }
        return now.addLaw(draft);
    }

    public int textTold(int text, int what) {
        if (!within(text, 0, now.texts - 1) || !within(what, 0, 1)) {
            return BAD;
        }
        return what == 0 ? laws[text].key : laws[text].atoms;
    }

    public int why(int key) {
        if (!within(key, 0, KEYS - 1)) {
            return BAD;
        }
        int number = now.counting[key];
        return number < 0 ? NONE : number;
    }

    // ---- sheets, slots

    public int sheet(int sheet, int sort, int n) {
        if (!isSheet(sheet) || !within(sort, MISSING, FLOATS)) {
            return BAD;
        }
        if (sort == MISSING) {
            sheets[sheet].become(MISSING, 0);
            return 0;
        }
        if (n > MOST_PLACES) {
            return BAD;
        }
        if (n < 0) {
            return SIZE;
        }
        sheets[sheet].become(sort, n);
        return n;
    }

    public int mark(int sheet, int place, int v) {
        if (!isSheet(sheet)) {
            return BAD;
        }
        Sheet row = sheets[sheet];
        if (row.isMissing()) {
            return NOTHING;
        }
        if (!row.has(place)) {
            return INDEX;
        }
        if (row.sort == SHORTS && v == NONE) {
            return KIND;
        }
        if (row.sort == FLOATS && v != NONE && !within(v, -99999, 99999)) {
            return BAD;
        }
        row.places[place] = row.sort == SHORTS ? (short) v : v;
        return 1;
    }

    public int pour(int sheet) {
        if (!isSheet(sheet)) {
            return BAD;
        }
        Sheet row = sheets[sheet];
        if (row.isMissing()) {
            return NOTHING;
        }
        int otherwise = 0;
        for (int i = 0; i < now.many; i++) {
            District d = now.districts[i];
            int rate = row.isNumberAt(i) ? held(row.places[i], 0, TOP_RATE) : d.rate;
            if (rate != d.rate) {
                otherwise++;
            }
            d.rate = rate;
        }
        return otherwise;
    }

    public int reads(int sheet, int district) {
        if (!isSheet(sheet) || !now.has(district)) {
            return BAD;
        }
        Sheet row = sheets[sheet];
        if (row.isMissing()) {
            return NOTHING;
        }
        thinkFromNow();
        for (int k = 0; k < row.size; k++) {
            if (row.isNumberAt(k) && row.places[k] != thought.districts[district].place) {
                return k;
            }
            thought.liveDay(only(district));
        }
        return NONE;
    }

    public int copy(int from, int place, int to, int at, int many) {
        if (!isSheet(from) || !isSheet(to)) {
            return BAD;
        }
        Sheet source = sheets[from];
        Sheet target = sheets[to];
        if (source.isMissing() || target.isMissing()) {
            return NOTHING;
        }
        if (source.sort != target.sort) {
            return KIND;
        }
        if (!source.hasRun(place, many) || !target.hasRun(at, many)) {
            return INDEX;
        }
        System.arraycopy(source.places, place, target.places, at, many);
        return many;
    }

    public int lay(int slot, int thing, int k) {
        if (!isSlot(slot) || !within(thing, HOLDS_NOTHING, HOLDS_NUMBER)) {
            return BAD;
        }
        if (thing == HOLDS_DISTRICT && !now.has(k)) {
            return BAD;
        }
        if (thing == HOLDS_SHEET && !isSheet(k)) {
            return BAD;
        }
        if (thing == HOLDS_SHEET && sheets[k].isMissing()) {
            return NOTHING;
        }
        Slot s = slots[slot];
        int was = s.thing;
        s.thing = thing;
        if (thing == HOLDS_DISTRICT) {
            s.district.becomeLike(now.districts[k]);
        } else if (thing == HOLDS_SHEET) {
            s.sheet.becomeLike(sheets[k]);
        } else {
            s.number = k;
        }
        return was;
    }

    public int ask(int slot, int kind) {
        if (!isSlot(slot) || !isKind(kind)) {
            return BAD;
        }
        Slot s = slots[slot];
        if (s.thing == HOLDS_NOTHING) {
            return NOTHING;
        }
        if (s.thing != HOLDS_DISTRICT || !s.district.isOf(kind)) {
            return KIND;
        }
        return s.district.worth();
    }

    public int item(int slot, int place) {
        if (!isSlot(slot)) {
            return BAD;
        }
        Slot s = slots[slot];
        if (s.thing == HOLDS_NOTHING) {
            return NOTHING;
        }
        if (s.thing != HOLDS_SHEET) {
            return KIND;
        }
        if (!s.sheet.has(place)) {
            return INDEX;
        }
        return s.sheet.isNumberAt(place) ? s.sheet.places[place] : KIND;
    }

    public int rest(int slot, int n) {
        if (!isSlot(slot)) {
            return BAD;
        }
        Slot s = slots[slot];
        if (s.thing == HOLDS_NOTHING) {
            return NOTHING;
        }
        if (s.thing != HOLDS_NUMBER) {
            return KIND;
        }
        return n == 0 ? NO : s.number % n;
    }

    // ---- rows, images

    public int tell(int v) {
        if (waitingMany >= MOST_WAITING) {
            return FULL;
        }
        waiting[waitingMany] = v;
        waitingMany++;
        return waitingMany;
    }

    public int check(int n) {
        int numbers = waitingMany;
        waitingMany = 0;
        if (!within(n, 1, CHECKED_DAYS)) {
            return BAD;
        }
        if (!imageKept) {
            return NO;
        }
        thought.becomeLike(image);
        int room = Math.min(n, TOP_DAY - image.day);
        int right = 0;
        for (int day = 1; day <= room; day++) {
            thought.liveDay(ALL);
            if (!stands(right, numbers, thought.fairs())) {
                return 1 + right;
            }
            right++;
            if (!stands(right, numbers, thought.pursesOfAll())) {
                return 1 + right;
            }
            right++;
        }
        return numbers > right ? 1 + right : 0;
    }

    public int keep() {
        image.becomeLike(now);
        imageKept = true;
        return now.many;
    }

    public int back() {
        if (!imageKept) {
            return NO;
        }
        now.becomeLike(image);
        return now.many;
    }

    public int count(int what) {
        switch (what) {
            case 0: return now.many;
            case 1: return now.day;
            case 2: return now.wage;
            case 3: return now.rent;
            case 4: return now.fair;
            case 5: return now.pursesOfAll();
            case 6: return now.texts;
            case 7: return waitingMany;
            case 8: return tapeLength;
            case 9: return now.z;
            default: return BAD;
        }
    }

    // ---- what the calls share

    private static boolean within(int v, int least, int most) {
        return v >= least && v <= most;
    }

    private static int held(int v, int least, int most) {
        return Math.max(least, Math.min(most, v));
    }

    private static boolean isKind(int kind) {
        return kind >= 0 && kind < ABOVE.length;
    }

    private boolean isSheet(int sheet) {
        return sheet >= 0 && sheet < sheets.length;
    }

    private boolean isSlot(int slot) {
        return slot >= 0 && slot < slots.length;
    }

    private static int only(int district) {
        return 1 << district;
    }

    private void thinkFromNow() {
        thought.becomeLike(now);
    }

    private void thinkOn(int days, int who) {
        for (int i = 0; i < days; i++) {
            thought.liveDay(who);
        }
    }

    /** From the most fairs seen when one was at each district a day ago to those of today. */
    private void tradeOneDay() {
        for (int i = 0; i < thought.many; i++) {
            int best = seen[i];
            if (i > 0) {
                best = Math.max(best, seen[i - 1]);
            }
            if (i + 1 < thought.many) {
                best = Math.max(best, seen[i + 1]);
            }
            // who can't be here yet stays out of the count
            seenNext[i] = best < 0 ? NONE : best + thought.fairAt(i);
        }
        int[] spare = seen;
        seen = seenNext;
        seenNext = spare;
    }

    private int mostSeenAt() {
        int best = 0;
        for (int i = 1; i < thought.many; i++) {
            if (seen[i] > seen[best]) {
                best = i;
            }
        }
        return best;
    }

    /** How far the weeks to come, with a rate, are from those that a sheet tells, together. */
    private int differences(Sheet row, int district, int rate) {
        thinkFromNow();
        District d = thought.districts[district];
        d.rate = rate;
        int together = 0;
        for (int k = 0; k < RATED_WEEKS && k < row.size; k++) {
            if (row.isNumberAt(k)) {
                together += Math.abs(d.length - row.places[k]);
            }
            if (row.hasNumberBehind(k)) {
                thinkTillNextWeek(district);
            }
        }
        return together;
    }

    private void thinkTillNextWeek(int district) {
        int began = 0;
        for (int day = 0; day < TOP_LENGTH && began == 0; day++) {
            began = thought.liveDay(only(district));
        }
    }

    private void feedOne(int v) {
        for (int shift = 24; shift >= 0 && tapeLength < MOST_BYTES; shift -= 8) {
            tape[tapeLength] = (byte) (v >>> shift);
            tapeLength++;
        }
    }

    private boolean stands(int place, int numbers, int due) {
        return place < numbers && place < waiting.length && waiting[place] == due;
    }

    /** A district, or what a slot keeps of one. */
    private static final class District {
        int kind = 0;
        int rate = 0;
        int week = 0;
        int length = 7;
        int place = 0;
        int born = 0;
        int hidden = 0;
        int purse = 0;

        void becomeNew(int newKind, int newRate) {
            kind = newKind;
            rate = newRate;
            week = 0;
            length = 7;
            place = 0;
            born = 0;
            hidden = 0;
            purse = 0;
        }

        void becomeLike(District other) {
            kind = other.kind;
            rate = other.rate;
            week = other.week;
            length = other.length;
            place = other.place;
            born = other.born;
            hidden = other.hidden;
            purse = other.purse;
        }

        boolean isOf(int wanted) {
            int k = kind;
            for (int steps = 0; steps < ABOVE.length && isKind(k); steps++) {
                if (k == wanted) {
                    return true;
                }
                k = ABOVE[k];
            }
            return false;
        }

        int worth() {
            switch (kind) {
                case QUIET: return rate + 2;
                case SILENT: return 2 * (rate + 2);
                case FERTILE: return 30 - rate;
                case FEAST: return 30 - rate - 4;
                case EVEN: return 11;
                default: return rate;
            }
        }

        /** Births by kind, where a plain district would have so many. */
        int birthsByKind(int plain) {
            switch (kind) {
                case QUIET: return plain / 2;
                case SILENT: return place == 0 ? 0 : plain / 2;
                case FERTILE: return plain + 1;
                case FEAST: return place == length - 1 ? 2 * (plain + 1) : plain + 1;
                case EVEN: return rate;
                default: return plain;
            }
        }

        void hideOne() {
            if (born > 0) {
                born--;
                hidden++;
            }
        }

        void beginWeek() {
            week++;
            length = held(born, LEAST_LENGTH, TOP_LENGTH);
            born = hidden;
            hidden = 0;
            place = 0;
        }
    }

    /**
     * All that an image keeps. The texts themselves stand in one row for all worlds: texts are only
     * added, and a world that goes back drops the last ones, so none that a world counts is ever
     * written over.
     */
    private static final class World {
        final District[] districts = new District[MOST_DISTRICTS];
        final int[] counting = new int[KEYS];
        final Law[] laws;
        final Reckoner reckoner = new Reckoner();
        int many = 0;
        int day = 0;
        int wage = 20;
        int rent = 2;
        int fair = 2;
        int z = 1;
        int texts = 0;

        World(Law[] allLaws) {
            laws = allLaws;
            for (int i = 0; i < districts.length; i++) {
                districts[i] = new District();
            }
            for (int i = 0; i < counting.length; i++) {
                counting[i] = -1;
            }
        }

        void becomeLike(World other) {
            for (int i = 0; i < other.many; i++) {
                districts[i].becomeLike(other.districts[i]);
            }
            for (int i = 0; i < counting.length; i++) {
                counting[i] = other.counting[i];
            }
            many = other.many;
            day = other.day;
            wage = other.wage;
            rent = other.rent;
            fair = other.fair;
            z = other.z;
            texts = other.texts;
        }

        boolean has(int district) {
            return district >= 0 && district < many;
        }

        void addDistrict(int kind, int rate) {
            if (many < districts.length) {
                districts[many].becomeNew(kind, rate);
                many++;
            }
        }

        int addLaw(Law law) {
            int number = texts;
            if (number >= laws.length) {
                return FULL;
            }
            laws[number].becomeLike(law);
            counting[law.key] = number;
            texts++;
            return number;
        }

        Law lawFor(int key) {
            int number = counting[key];
            return number >= 0 && number < laws.length ? laws[number] : null;
        }

        int draw() {
            z = z * 1103515245 + 12345;
            return z >>> 8;
        }

        int fairAt(int district) {
            return has(district) && districts[district].place == fair ? 1 : 0;
        }

        int fairs() {
            int found = 0;
            for (int i = 0; i < many; i++) {
                found += fairAt(i);
            }
            return found;
        }

        int pursesOfAll() {
            int together = 0;
            for (int i = 0; i < many; i++) {
                together += districts[i].purse;
            }
            return together;
        }

        int bornOfAll() {
            int together = 0;
            for (int i = 0; i < many; i++) {
                together += districts[i].born;
            }
            return together;
        }

        int birthsOf(District d, int x) {
            Law law = lawFor(KEY_BIRTH);
            int plain = law == null ? x : reckoner.gives(law, x, d.length, d.place);
            return d.birthsByKind(held(plain, 0, TOP_BIRTHS));
        }

        int wageOf(District d) {
            Law law = lawFor(KEY_WAGE);
            return law == null ? wage : held(reckoner.gives(law, d.length, d.week, 0), 0, TOP_WAGE);
        }

        /**
         * A day of the districts whose bits are set: how many weeks began. The others only draw:
         * no district looks at another, so a thought about one can leave out the rest.
         */
        int liveDay(int who) {
            int began = 0;
            for (int i = 0; i < many; i++) {
                int drawn = draw();
                if ((who >> i & 1) == 1) {
                    began += dayOf(districts[i], drawn);
                }
            }
            day++;
            return began;
        }

        private int dayOf(District d, int drawn) {
            int span = d.rate + 1;
            int x = span > 0 ? drawn % span : 0;
            d.born += birthsOf(d, x);
            d.purse -= rent;
            d.place++;
            if (d.place < d.length) {
                return 0;
            }
            d.purse += wageOf(d);
            d.beginWeek();
            return 1;
        }
    }

    /**
     * A text that was understood, as a row of steps in the order in which they are worked out:
     * a number itself; -1 to -3 a name, by its place among those of the key; else a sign, below 0.
     */
    private static final class Law {
        int key = 0;
        int atoms = 0;
        int size = 0;
        final int[] steps = new int[MOST_BYTES];

        void becomeNew(int newKey) {
            key = newKey;
            atoms = 0;
            size = 0;
        }

        void becomeLike(Law other) {
            key = other.key;
            atoms = other.atoms;
            size = other.size;
            System.arraycopy(other.steps, 0, steps, 0, steps.length);
        }

        void addAtom(int step) {
            atoms++;
            addStep(step);
        }

        void addSign(int sign) {
            addStep(-sign);
        }

        private void addStep(int step) {
            if (size < steps.length) {
                steps[size] = step;
                size++;
            }
        }
    }

    /** Works laws out. */
    private static final class Reckoner {
        private final int[] stack = new int[MOST_BYTES];

        int gives(Law law, int first, int second, int third) {
            int top = 0;
            for (int i = 0; i < law.size; i++) {
                int step = law.steps[i];
                if (step >= -3) {
                    if (top < stack.length) {
                        stack[top] = step >= 0 ? step : named(step, first, second, third);
                        top++;
                    }
                } else if (step == -'!') {
                    if (top > 0) {
                        stack[top - 1] = stack[top - 1] == 0 ? 1 : 0;
                    }
                } else if (top > 1) {
                    top--;
                    stack[top - 1] = joined(-step, stack[top - 1], stack[top]);
                }
            }
            return top > 0 ? stack[0] : 0;
        }

        private static int named(int step, int first, int second, int third) {
            if (step == -1) {
                return first;
            }
            return step == -2 ? second : third;
        }

        private static int joined(int sign, int a, int b) {
            switch (sign) {
                case '+': return a + b;
                case '-': return a - b;
                case '*': return a * b;
                case '/': return b == 0 ? 0 : a / b;
                case '<': return a < b ? 1 : 0;
                case '=': return a == b ? 1 : 0;
                case '>': return a > b ? 1 : 0;
                case '&': return a != 0 && b != 0 ? 1 : 0;
                default: return a != 0 || b != 0 ? 1 : 0;
            }
        }
    }

    /** Reads a tape as a text; where it stops short of the end, start is the place of the fault. */
    private static final class Reader {
        private static final int END = -1;
        private static final int LETTERS = -2;
        private static final int DIGITS = -3;

        private static final int LEVEL_OR = 0;
        private static final int LEVEL_AND = 1;
        private static final int LEVEL_TEST = 2;
        private static final int LEVEL_SUM = 3;
        private static final int LEVEL_TERM = 4;
        private static final int LEVEL_PIECE = 5;

        private static final int MOST_OPEN = 8;

        private byte[] bytes = new byte[0];
        private int length = 0;
        private Law law = new Law();
        /** What stands at start: END, LETTERS, DIGITS, or the byte of a sign. */
        private int token = END;
        private int start = 0;
        private int stop = 0;
        private boolean lacksBlank = false;

        boolean understands(byte[] tape, int tapeLength, Law target) {
            bytes = tape;
            length = Math.min(tapeLength, tape.length);
            law = target;
            token = END;
            stop = 0;
            goOn();
            int key = keyHere();
            if (key < 0) {
                return false;
            }
            law.becomeNew(key);
            goOn();
            return takesLevel(LEVEL_OR, 0, 0) && token == END;
        }

        /** A level of the grammar, the loosest being 0, within so many open ( and !. */
        private boolean takesLevel(int level, int parens, int bangs) {
            if (level >= LEVEL_PIECE) {
                return takesPiece(parens, bangs);
            }
            if (!takesLevel(level + 1, parens, bangs)) {
                return false;
            }
            for (int joins = 0; joins < MOST_BYTES && levelOf(token) == level; joins++) {
                if (level == LEVEL_TEST && joins > 0) {
                    return true;
                }
                int sign = token;
                goOn();
                if (!takesLevel(level + 1, parens, bangs)) {
                    return false;
                }
                law.addSign(sign);
            }
            return true;
        }

        private boolean takesPiece(int parens, int bangs) {
            switch (token) {
                case DIGITS: return takesNumber();
                case LETTERS: return takesName();
                case '!': return bangs < MOST_OPEN && takesNot(parens, bangs + 1);
                case '(': return parens < MOST_OPEN && takesInner(parens + 1, bangs);
                default: return false;
            }
        }

        private boolean takesNumber() {
            if (lacksBlank || stop - start > 4) {
                return false;
            }
            int value = 0;
            for (int i = start; i < stop; i++) {
                value = value * 10 + byteAt(i) - '0';
            }
            law.addAtom(value);
            goOn();
            return true;
        }

        private boolean takesName() {
            if (lacksBlank || stop - start != 1) {
                return false;
            }
            int name = namesOf(law.key).indexOf((char) byteAt(start));
            if (name < 0) {
                return false;
            }
            law.addAtom(-1 - name);
            goOn();
            return true;
        }

        private boolean takesNot(int parens, int bangs) {
            goOn();
            if (!takesPiece(parens, bangs)) {
                return false;
            }
            law.addSign('!');
            return true;
        }

        private boolean takesInner(int parens, int bangs) {
            goOn();
            if (!takesLevel(LEVEL_OR, parens, bangs) || token != ')') {
                return false;
            }
            goOn();
            return true;
        }

        private static int levelOf(int sign) {
            switch (sign) {
                case '|': return LEVEL_OR;
                case '&': return LEVEL_AND;
                case '<':
                case '=':
                case '>': return LEVEL_TEST;
                case '+':
                case '-': return LEVEL_SUM;
                case '*':
                case '/': return LEVEL_TERM;
                default: return -1;
            }
        }

        private static String namesOf(int key) {
            switch (key) {
                case KEY_BIRTH: return "xlp";
                case KEY_WAGE: return "lw";
                default: return "db";
            }
        }

        private int keyHere() {
            if (token != LETTERS) {
                return -1;
            }
            if (spells("birth")) {
                return KEY_BIRTH;
            }
            if (spells("wage")) {
                return KEY_WAGE;
            }
            return spells("fine") ? KEY_FINE : -1;
        }

        private boolean spells(String word) {
            if (stop - start != word.length()) {
                return false;
            }
            for (int i = 0; i < word.length(); i++) {
                if (byteAt(start + i) != word.charAt(i)) {
                    return false;
                }
            }
            return true;
        }

        private void goOn() {
            boolean behindWord = token == LETTERS || token == DIGITS;
            start = stop;
            while (start < length && byteAt(start) == ' ') {
                start++;
            }
            lacksBlank = behindWord && start == stop;
            token = start < length ? sortOf(byteAt(start)) : END;
            stop = Math.min(start + 1, length);
            if (token == LETTERS || token == DIGITS) {
                while (stop < length && sortOf(byteAt(stop)) == token) {
                    stop++;
                }
            }
        }

        private static int sortOf(int b) {
            if (b >= 'a' && b <= 'z') {
                return LETTERS;
            }
            return b >= '0' && b <= '9' ? DIGITS : b;
        }

        private int byteAt(int place) {
            return place >= 0 && place < bytes.length ? bytes[place] & 255 : 0;
        }
    }

    /** A row of shorts or floats: both hold whole numbers, and NONE stands for no number. */
    private static final class Sheet {
        int sort = MISSING;
        int size = 0;
        final int[] places = new int[MOST_PLACES];

        void become(int newSort, int newSize) {
            sort = newSort;
            size = newSize;
            for (int i = 0; i < places.length; i++) {
                places[i] = 0;
            }
        }

        void becomeLike(Sheet other) {
            sort = other.sort;
            size = other.size;
            System.arraycopy(other.places, 0, places, 0, places.length);
        }

        boolean isMissing() {
            return sort == MISSING;
        }

        boolean has(int place) {
            return place >= 0 && place < size;
        }

        /** Nothing at all may stand right behind the last place, too. */
        boolean hasRun(int place, int many) {
            return many >= 0 && place >= 0 && place <= size && many <= size - place;
        }

        boolean isNumberAt(int place) {
            return has(place) && places[place] != NONE;
        }

        boolean hasNumberBehind(int place) {
            for (int k = place + 1; k < RATED_WEEKS && k < size; k++) {
                if (isNumberAt(k)) {
                    return true;
                }
            }
            return false;
        }
    }

    private static final class Slot {
        int thing = HOLDS_NOTHING;
        int number = 0;
        final District district = new District();
        final Sheet sheet = new Sheet();
    }
}
