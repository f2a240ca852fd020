/** The house that counts at the door; what each call answers is told by the promises of DOC.md. */
public final class TwelveShort {
    public static final int BAD = -1000000001, NO = -1000000002, FULL = -1000000003, NONE = -1000000005, NOTHING = -1000000011, KIND = -1000000012, INDEX = -1000000013, SIZE = -1000000014;

    private static final int POET = 1, NEIGHBOUR = 2, THIEF = 3, LAMPLIGHTER = 4, DOG = 5, KINDS = 6;
    /** The KIND that each KIND stands right under; PERSON, the first, stands under none. */
    private static final int[] UNDER = {-1, 0, 0, 1, 2, 0};

    private static final int MOST_PEOPLE = 10, MOST_ODDS = 100, MOST_STEPS = 99, MOST_WIT = 99, MOST_TIMES = 9999;
    private static final int MOST_NEVER = 10, MOST_FOG = 100, MOST_TALK = 99999, LAST_EVENING = 9999;
    private static final int MOST_FEWEST = 999, MOST_DEALT = 10;
    private static final int MOST_EVENINGS = 100, MOST_BEHIND = 100, MOST_MEETS = 200, MOST_BEST = 60, MOST_CHECKED = 30;

    private static final int ASK = 0, FEE = 1, FINE = 2, KEYS = 3;
    private static final int MOST_TEXTS = 14, MOST_BYTES = 96, MOST_DIGITS = 4, MOST_OPEN = 8;
    /** Nine levels of brackets, each with five values that wait at most, and the one in hand. */
    private static final int MOST_VALUES = 48;

    private static final int SHEETS = 4, MOST_PLACES = 24, MISSING = -1, SHORTS = 0, FLOATS = 1, MOST_FLOAT = 99999;
    private static final int SLOTS = 5, HOLDS_NOTHING = 0, HOLDS_PERSON = 1, HOLDS_SHEET = 2, HOLDS_NUMBER = 3;
    private static final int MOST_WAITING = 60;

    private final House now = new House();
    private final House thought = new House();
    private final House image = new House();
    private boolean hasImage = false;
    /**
     * The TEXTS of now and of THE IMAGE: what is told later only stands behind, so those of THE IMAGE
     * are always the first of them. One more than may be, so that a FAULT is found when all are taken.
     */
    private final Law[] laws = new Law[MOST_TEXTS + 1];
    private final Reader reader = new Reader();
    private final Row[] rows = new Row[SHEETS];
    private final Slot[] slots = new Slot[SLOTS];
    private final int[] waiting = new int[MOST_WAITING];
    private int waitingMany = 0;
    private final int[] differences = new int[MOST_PEOPLE];

    public TwelveShort() {
        for (int i = 0; i < laws.length; i++) {
            laws[i] = new Law();
        }
        for (int i = 0; i < rows.length; i++) {
            rows[i] = new Row();
        }
        for (int i = 0; i < slots.length; i++) {
            slots[i] = new Slot();
        }
    }

    // ---- people

    public int person(int kind, int odds, int steps, int wit) {
        if (!isKind(kind) || !isWithin(odds, 0, MOST_ODDS)) {
            return BAD;
        }
        if (!isWithin(steps, 0, MOST_STEPS) || !isWithin(wit, 0, MOST_WIT)) {
            return BAD;
        }
        if (now.people >= MOST_PEOPLE) {
            return FULL;
        }
        return now.welcome(kind, odds, steps, wit);
    }

    public int told(int person, int what) {
        if (!isPerson(person)) {
            return BAD;
        }
        Guest guest = now.guests[person];
        switch (what) {
            case 0: return guest.kind;
            case 1: return guest.odds;
            case 2: return guest.steps;
            case 3: return guest.wit;
            case 4: return guest.times;
            case 5: return now.comesBy(guest, lawThatCounts(now, ASK));
            case 6: return guest.walks();
            case 7: return guest.brings();
            case 8: return guest.worth();
            default: return BAD;
        }
    }

    public int as(int person, int kind) {
        if (!isPerson(person) || !isKind(kind)) {
            return BAD;
        }
        Guest guest = now.guests[person];
        return guest.isOf(kind) ? guest.wit : KIND;
    }

    public int turns(int person, int kind) {
        if (!isPerson(person) || !isKind(kind)) {
            return BAD;
        }
        int was = now.guests[person].kind;
        now.guests[person].kind = kind;
        return was;
    }

    public int set(int person, int what, int v) {
        if (!isPerson(person) || !isWithin(what, 1, 4) || !isWithin(v, 0, mostOf(what))) {
            return BAD;
        }
        Guest guest = now.guests[person];
        int was;
        switch (what) {
            case 1:
                was = guest.odds;
                guest.odds = v;
                return was;
            case 2:
                was = guest.steps;
                guest.steps = v;
                return was;
            case 3:
                was = guest.wit;
                guest.wit = v;
                return was;
            default:
                was = guest.times;
                guest.times = v;
                return was;
        }
    }

    public int rule(int what, int v) {
        int was;
        if (what == 0 && isWithin(v, 0, MOST_NEVER)) {
            was = now.never;
            now.never = v;
            return was;
        }
        if (what == 1 && isWithin(v, 0, MOST_FOG)) {
            was = now.fog;
            now.fog = v;
            return was;
        }
        return BAD;
    }

    public int deal(int n) {
        if (!isWithin(n, 1, MOST_DEALT)) {
            return BAD;
        }
        int come = Math.min(n, MOST_PEOPLE - now.people);
        for (int i = 0; i < come; i++) {
            now.welcomeDrawn();
        }
        return come;
    }

    public int seed(int v) {
        int was = now.z;
        now.z = v;
        return was;
    }

    public int fewest(int v, int what) {
        if (!isWithin(v, 0, MOST_FEWEST) || !isWithin(what, 0, 1)) {
            return BAD;
        }
        int best = now.fewestThatBring(v);
        if (best < 0) {
            return NONE;
        }
        return what == 0 ? best : Integer.bitCount(best);
    }

    // ---- evenings

    public int sits(int set) {
        if (!isWithin(set, 0, (1 << now.people) - 1)) {
            return BAD;
        }
        return now.dine(set);
    }

    public int evenings(int n) {
        if (!isWithin(n, 1, MOST_EVENINGS)) {
            return BAD;
        }
        int sentBefore = now.sent;
        now.pass(Math.min(n, LAST_EVENING - now.evening), lawThatCounts(now, ASK));
        return now.sent - sentBefore;
    }

    public int house(int what) {
        if (isWithin(what, 0, 4)) {
            return now.total(what);
        }
        if (what == 5) {
            return now.witOfAll();
        }
        if (what != 6) {
            return BAD;
        }
        int nearest = now.nearestBut(now.sat);
        return nearest < 0 ? NONE : nearest;
    }

    // ---- what will be

    public int behind(int n, int what) {
        if (!isWithin(n, 0, MOST_BEHIND) || !isWithin(what, 0, 4 + now.people)) {
            return BAD;
        }
        thought.copyFrom(now);
        thought.pass(n, lawThatCounts(now, ASK));
        return what < 5 ? thought.total(what) : thought.guests[what - 5].times;
    }

    public int meets(int person, int other) {
        if (!isPerson(person) || !isPerson(other) || person == other) {
            return BAD;
        }
        int both = 1 << person | 1 << other;
        Law law = lawThatCounts(now, ASK);
        thought.copyFrom(now);
        for (int n = 1; n <= MOST_MEETS; n++) {
            thought.pass(1, law);
            if ((thought.sat & both) == both) {
                return n;
            }
        }
        return NONE;
    }

    public int door(int n, int what) {
        if (!isWithin(n, 1, MOST_BEST) || !isWithin(what, 0, 1)) {
            return BAD;
        }
        if (now.people == 0) {
            return NONE;
        }
        Law law = lawThatCounts(now, ASK);
        int best = 0;
        int most = -1;
        for (int p = 0; p < now.people; p++) {
            thought.copyFrom(now);
            thought.guests[p].steps = 0;
            thought.pass(n, law);
            if (thought.talk > most) {
                most = thought.talk;
                best = p;
            }
        }
        return what == 0 ? best : most;
    }

    public int never(int n, int what) {
        if (!isWithin(n, 1, MOST_BEST) || !isWithin(what, 0, 1)) {
            return BAD;
        }
        Law law = lawThatCounts(now, ASK);
        int best = 0;
        int most = -1;
        for (int number = 0; number <= MOST_NEVER; number++) {
            thought.copyFrom(now);
            thought.never = number;
            thought.pass(n, law);
            if (thought.talk > most) {
                most = thought.talk;
                best = number;
            }
        }
        return what == 0 ? best : most;
    }

    public int becomes(int person, int n, int what) {
        if (!isPerson(person) || !isWithin(n, 1, MOST_BEST) || !isWithin(what, 0, 1)) {
            return BAD;
        }
        Law law = lawThatCounts(now, ASK);
        int best = 0;
        int most = -1;
        for (int kind = 0; kind < KINDS; kind++) {
            thought.copyFrom(now);
            thought.guests[person].kind = kind;
            thought.pass(n, law);
            if (thought.talk > most) {
                most = thought.talk;
                best = kind;
            }
        }
        return what == 0 ? best : most;
    }

    public int like(int sheet, int what) {
        if (!isSheet(sheet) || !isWithin(what, 0, 1)) {
            return BAD;
        }
        if (rows[sheet].isMissing()) {
            return NOTHING;
        }
        if (now.people == 0) {
            return NONE;
        }
        sumDifferences(rows[sheet]);
        int best = 0;
        for (int p = 1; p < now.people; p++) {
            if (differences[p] < differences[best]) {
                best = p;
            }
        }
        return what == 0 ? best : differences[best];
    }

    public int fee() {
        Law law = lawThatCounts(now, FEE);
        return law == null ? now.sent : law.gives(now.sent, now.failed, 0, 0);
    }

    public int fine(int person) {
        if (!isPerson(person)) {
            return BAD;
        }
        Guest guest = now.guests[person];
        Law law = lawThatCounts(now, FINE);
        return law == null ? guest.wit : law.gives(guest.odds, guest.wit, 0, 0);
    }

    // ---- texts

    public int feed(int a, int b, int c) {
        Tape tape = reader.tape;
        if (tape.size + 12 > MOST_BYTES) {
            return FULL;
        }
        tape.addFour(a);
        tape.addFour(b);
        tape.addFour(c);
        return tape.size;
    }

    public int trim(int n) {
        if (!isWithin(n, 0, reader.tape.size)) {
            return BAD;
        }
        reader.tape.size = n;
        return n;
    }

    public int text() {
        int number = held(now.texts, 0, MOST_TEXTS);
        Law law = laws[number];
        int fault = reader.findFault(law);
        reader.tape.size = 0;
        if (fault >= 0) {
            return -100 - fault;
        }
        if (number == MOST_TEXTS) {
            return FULL;
        }
        now.texts = number + 1;
        now.counting[law.key] = number;
        return number;
    }

    public int textTold(int text, int what) {
        if (!isWithin(text, 0, now.texts - 1) || !isWithin(what, 0, 1)) {
            return BAD;
        }
        return what == 0 ? laws[text].key : laws[text].leaves;
    }

    public int why(int key) {
        if (!isWithin(key, 0, KEYS - 1)) {
            return BAD;
        }
        return now.counting[key] < 0 ? NONE : now.counting[key];
    }

    // ---- sheets, slots

    public int sheet(int sheet, int sort, int n) {
        if (!isSheet(sheet) || !isWithin(sort, MISSING, FLOATS)) {
            return BAD;
        }
        if (sort == MISSING) {
            rows[sheet].become(MISSING, 0);
            return 0;
        }
        if (n > MOST_PLACES) {
            return BAD;
        }
        if (n < 0) {
            return SIZE;
        }
        rows[sheet].become(sort, n);
        return n;
    }

    public int mark(int sheet, int place, int v) {
        if (!isSheet(sheet)) {
            return BAD;
        }
        Row row = rows[sheet];
        if (row.isMissing()) {
            return NOTHING;
        }
        if (!row.hasPlace(place)) {
            return INDEX;
        }
        if (row.sort == SHORTS) {
            if (v == NONE) {
                return KIND;
            }
            row.places[place] = (short) v;
            return 1;
        }
        if (v != NONE && !isWithin(v, -MOST_FLOAT, MOST_FLOAT)) {
            return BAD;
        }
        row.places[place] = v;
        return 1;
    }

    public int pour(int sheet) {
        if (!isSheet(sheet)) {
            return BAD;
        }
        Row row = rows[sheet];
        if (row.isMissing()) {
            return NOTHING;
        }
        int otherwise = 0;
        for (int p = 0; p < now.people; p++) {
            if (row.hasNumber(p)) {
                int odds = held(row.places[p], 0, MOST_ODDS);
                otherwise += odds == now.guests[p].odds ? 0 : 1;
                now.guests[p].odds = odds;
            }
        }
        return otherwise;
    }

    public int reads(int sheet) {
        if (!isSheet(sheet)) {
            return BAD;
        }
        Row row = rows[sheet];
        if (row.isMissing()) {
            return NOTHING;
        }
        for (int place = 0; place < row.size; place++) {
            if (row.hasNumber(place) && (!isPerson(place) || row.places[place] != now.guests[place].steps)) {
                return place;
            }
        }
        return NONE;
    }

    public int copy(int from, int place, int to, int at, int many) {
        if (!isSheet(from) || !isSheet(to)) {
            return BAD;
        }
        Row source = rows[from];
        Row target = rows[to];
        if (source.isMissing() || target.isMissing()) {
            return NOTHING;
        }
        if (source.sort != target.sort) {
            return KIND;
        }
        if (!source.hasPlaces(place, many) || !target.hasPlaces(at, many)) {
            return INDEX;
        }
        System.arraycopy(source.places, place, target.places, at, many);
        return many;
    }

    public int lay(int slot, int thing, int k) {
        if (!isSlot(slot) || !isWithin(thing, HOLDS_NOTHING, HOLDS_NUMBER)) {
            return BAD;
        }
        if (thing == HOLDS_PERSON && !isPerson(k) || thing == HOLDS_SHEET && !isSheet(k)) {
            return BAD;
        }
        if (thing == HOLDS_SHEET && rows[k].isMissing()) {
            return NOTHING;
        }
        Slot held = slots[slot];
        int was = held.thing;
        held.thing = thing;
        if (thing == HOLDS_PERSON) {
            held.guest.copyFrom(now.guests[k]);
        } else if (thing == HOLDS_SHEET) {
            held.row.copyFrom(rows[k]);
        } else if (thing == HOLDS_NUMBER) {
            held.number = k;
        }
        return was;
    }

    public int ask(int slot, int kind) {
        if (!isSlot(slot) || !isKind(kind)) {
            return BAD;
        }
        Slot held = slots[slot];
        if (held.thing == HOLDS_NOTHING) {
            return NOTHING;
        }
        if (held.thing != HOLDS_PERSON || !held.guest.isOf(kind)) {
            return KIND;
        }
        return held.guest.worth();
    }

    public int item(int slot, int place) {
        if (!isSlot(slot)) {
            return BAD;
        }
        Slot held = slots[slot];
        if (held.thing == HOLDS_NOTHING) {
            return NOTHING;
        }
        if (held.thing != HOLDS_SHEET) {
            return KIND;
        }
        if (!held.row.hasPlace(place)) {
            return INDEX;
        }
        return held.row.hasNumber(place) ? held.row.places[place] : KIND;
    }

    public int rest(int slot, int n) {
        if (!isSlot(slot)) {
            return BAD;
        }
        Slot held = slots[slot];
        if (held.thing == HOLDS_NOTHING) {
            return NOTHING;
        }
        if (held.thing != HOLDS_NUMBER) {
            return KIND;
        }
        return n == 0 ? NO : held.number % n;
    }

    // ---- rows, images

    public int tell(int v) {
        if (!isWithin(waitingMany, 0, waiting.length - 1)) {
            return FULL;
        }
        waiting[waitingMany] = v;
        waitingMany++;
        return waitingMany;
    }

    public int check(int n) {
        int many = waitingMany;
        waitingMany = 0;
        if (!isWithin(n, 1, MOST_CHECKED)) {
            return BAD;
        }
        return hasImage ? firstOtherwise(n, many) : NO;
    }

    public int keep() {
        image.copyFrom(now);
        hasImage = true;
        return now.people;
    }

    public int back() {
        if (!hasImage) {
            return NO;
        }
        now.copyFrom(image);
        return now.people;
    }

    public int count(int what) {
        switch (what) {
            case 0: return now.people;
            case 1: return now.evening;
            case 2: return now.never;
            case 3: return now.fog;
            case 4: return now.texts;
            case 5: return waitingMany;
            case 6: return reader.tape.size;
            case 7: return now.z;
            default: return BAD;
        }
    }

    // ---- what the calls share

    private static boolean isWithin(int v, int least, int most) {
        return v >= least && v <= most;
    }

    private static int held(int v, int least, int most) {
        return Math.max(least, Math.min(v, most));
    }

    private static boolean isKind(int kind) {
        return isWithin(kind, 0, KINDS - 1);
    }

    private static boolean isSheet(int sheet) {
        return isWithin(sheet, 0, SHEETS - 1);
    }

    private static boolean isSlot(int slot) {
        return isWithin(slot, 0, SLOTS - 1);
    }

    private boolean isPerson(int person) {
        return isWithin(person, 0, now.people - 1);
    }

    private static int mostOf(int what) {
        switch (what) {
            case 1: return MOST_ODDS;
            case 2: return MOST_STEPS;
            case 3: return MOST_WIT;
            default: return MOST_TIMES;
        }
    }

    /** Null, if no TEXT of that KEY has been told in that house. */
    private Law lawThatCounts(House of, int key) {
        int number = of.counting[key];
        return isWithin(number, 0, MOST_TEXTS - 1) ? laws[number] : null;
    }

    private void sumDifferences(Row row) {
        Law law = lawThatCounts(now, ASK);
        for (int p = 0; p < differences.length; p++) {
            differences[p] = 0;
        }
        thought.copyFrom(now);
        for (int k = 0; k < row.size; k++) {
            if (row.hasNumber(k)) {
                for (int p = 0; p < thought.people; p++) {
                    differences[p] += Math.abs(thought.guests[p].times - row.places[k]);
                }
            }
            thought.pass(1, law);
        }
    }

    /** 1 and how many of the first so many in waiting are right, or 0, if all are and none is missing. */
    private int firstOtherwise(int n, int many) {
        Law law = lawThatCounts(image, ASK);
        int rounds = Math.min(n, LAST_EVENING - image.evening);
        int right = 0;
        thought.copyFrom(image);
        for (int i = 0; i < rounds; i++) {
            thought.pass(1, law);
            if (!isNext(right, many, thought.talk)) {
                return 1 + right;
            }
            if (!isNext(right + 1, many, thought.oddsOfAll())) {
                return 2 + right;
            }
            right += 2;
        }
        return right == many ? 0 : 1 + right;
    }

    private boolean isNext(int place, int many, int v) {
        return place < many && place < waiting.length && waiting[place] == v;
    }

    /** One of PEOPLE. */
    private static final class Guest {
        int kind = 0;
        int odds = 0;
        int steps = 0;
        int wit = 0;
        int times = 0;

        void copyFrom(Guest other) {
            kind = other.kind;
            odds = other.odds;
            steps = other.steps;
            wit = other.wit;
            times = other.times;
        }

        boolean isOf(int wanted) {
            int own = kind;
            for (int up = 0; up < KINDS && isKind(own); up++) {
                if (own == wanted) {
                    return true;
                }
                own = UNDER[own];
            }
            return false;
        }

        int comes(int plain, int satMany) {
            int asPoet = plain / 2;
            int asNeighbour = steps > 60 ? 0 : plain;
            switch (kind) {
                case POET: return asPoet;
                case THIEF: return Math.min(asPoet + 10, MOST_ODDS);
                case NEIGHBOUR: return asNeighbour;
                case LAMPLIGHTER: return Math.min(asNeighbour + satMany, MOST_ODDS);
                case DOG: return 0;
                default: return plain;
            }
        }

        int walks() {
            int asPoet = 2 * steps;
            int asNeighbour = Math.max(steps - 10, 0);
            switch (kind) {
                case POET: return asPoet;
                case THIEF: return Math.max(asPoet - 5, 0);
                case NEIGHBOUR: return asNeighbour;
                case LAMPLIGHTER: return asNeighbour / 2;
                case DOG: return 99;
                default: return steps;
            }
        }

        int brings() {
            int asPerson = wit / 10;
            int asPoet = asPerson + 5;
            int asNeighbour = Math.max(asPerson - 1, 0);
            switch (kind) {
                case POET: return asPoet;
                case THIEF: return 2 * asPoet;
                case NEIGHBOUR: return asNeighbour;
                case LAMPLIGHTER: return asNeighbour + 2;
                case DOG: return 0;
                default: return asPerson;
            }
        }

        int worth() {
            int asPoet = wit + times;
            int asNeighbour = 99 - steps;
            switch (kind) {
                case POET: return asPoet;
                case THIEF: return asPoet / 2;
                case NEIGHBOUR: return asNeighbour;
                case LAMPLIGHTER: return asNeighbour + 7;
                case DOG: return odds;
                default: return wit;
            }
        }
    }

    /** All that AN IMAGE keeps, but what the TEXTS say: as it is now, as it was, or as it is thought. */
    private static final class House {
        final Guest[] guests = new Guest[MOST_PEOPLE];
        /** Of each KEY the TEXT that counts, or -1. */
        final int[] counting = {-1, -1, -1};
        int people = 0;
        int never = 3;
        int fog = 0;
        int sat = 0;
        int talk = 0;
        int sent = 0;
        int failed = 0;
        int evening = 0;
        int z = 1;
        int texts = 0;

        House() {
            for (int i = 0; i < guests.length; i++) {
                guests[i] = new Guest();
            }
        }

        void copyFrom(House other) {
            for (int i = 0; i < other.people; i++) {
                guests[i].copyFrom(other.guests[i]);
            }
            for (int key = 0; key < KEYS; key++) {
                counting[key] = other.counting[key];
            }
            people = other.people;
            never = other.never;
            fog = other.fog;
            sat = other.sat;
            talk = other.talk;
            sent = other.sent;
            failed = other.failed;
            evening = other.evening;
            z = other.z;
            texts = other.texts;
        }

        /** The number of the new one; NONE, if there is no room. */
        int welcome(int kind, int odds, int steps, int wit) {
            if (!isWithin(people, 0, guests.length - 1)) {
                return NONE;
            }
            Guest guest = guests[people];
            guest.kind = kind;
            guest.odds = odds;
            guest.steps = steps;
            guest.wit = wit;
            guest.times = 0;
            people++;
            return people - 1;
        }

        void welcomeDrawn() {
            int kind = draw() % KINDS;
            int odds = draw() % (MOST_ODDS + 1);
            int steps = draw() % (MOST_STEPS + 1);
            int wit = draw() % (MOST_WIT + 1);
            welcome(kind, odds, steps, wit);
        }

        int draw() {
            z = z * 1103515245 + 12345;
            return z >>> 8;
        }

        /** What one comes by under the law of asking, which is null if there is none. */
        int comesBy(Guest guest, Law law) {
            int satMany = Integer.bitCount(sat);
            int plain = guest.odds;
            if (law != null) {
                plain = held(law.gives(guest.odds, guest.wit, guest.times, satMany), 0, MOST_ODDS);
            }
            return guest.comes(plain, satMany);
        }

        /** The nearest of those that are not in the set, or -1. */
        int nearestBut(int set) {
            int nearest = -1;
            int least = 0;
            for (int p = 0; p < people; p++) {
                if ((set >> p & 1) == 0) {
                    int walks = guests[p].walks();
                    if (nearest < 0 || walks < least) {
                        nearest = p;
                        least = walks;
                    }
                }
            }
            return nearest;
        }

        /** A DINNER of a set: what those that sit bring, together. */
        int dine(int set) {
            sat = Integer.bitCount(set) == never ? withOneSentFor(set) : set;
            int brought = 0;
            for (int p = 0; p < people; p++) {
                Guest guest = guests[p];
                if ((sat >> p & 1) == 1) {
                    guest.odds = Math.min(guest.odds + 2, MOST_ODDS);
                    guest.times = Math.min(guest.times + 1, MOST_TIMES);
                    brought += guest.brings();
                } else {
                    guest.odds = Math.max(guest.odds - 1, 0);
                }
            }
            talk = Math.min(talk + brought, MOST_TALK);
            return brought;
        }

        private int withOneSentFor(int set) {
            int nearest = nearestBut(set);
            if (nearest < 0) {
                failed++;
                return set;
            }
            sent++;
            return set | 1 << nearest;
        }

        void pass(int evenings, Law law) {
            for (int i = 0; i < evenings; i++) {
                dine(drawComers(law));
                drawFog();
                evening++;
            }
        }

        private int drawComers(Law law) {
            int set = 0;
            for (int p = 0; p < people; p++) {
                if (draw() % 100 < comesBy(guests[p], law)) {
                    set |= 1 << p;
                }
            }
            return set;
        }

        private void drawFog() {
            if (draw() % 100 < fog && people > 0) {
                int who = draw() % people;
                guests[who].steps = draw() % (MOST_STEPS + 1);
            }
        }

        /** 0 TALK, 1 SENT, 2 FAILED, 3 SAT, 4 ODDS of all. */
        int total(int what) {
            switch (what) {
                case 0: return talk;
                case 1: return sent;
                case 2: return failed;
                case 3: return sat;
                default: return oddsOfAll();
            }
        }

        int oddsOfAll() {
            int sum = 0;
            for (int p = 0; p < people; p++) {
                sum += guests[p].odds;
            }
            return sum;
        }

        int witOfAll() {
            int sum = 0;
            for (int p = 0; p < people; p++) {
                sum += guests[p].wit;
            }
            return sum;
        }

        /** The set, or -1, if not all bring so much. */
        int fewestThatBring(int v) {
            int best = -1;
            int fewest = MOST_PEOPLE + 1;
            for (int set = 0; set < 1 << people; set++) {
                int many = Integer.bitCount(set);
                if (many < fewest && broughtBy(set) >= v) {
                    best = set;
                    fewest = many;
                }
            }
            return best;
        }

        private int broughtBy(int set) {
            int sum = 0;
            for (int p = 0; p < people; p++) {
                if ((set >> p & 1) == 1) {
                    sum += guests[p].brings();
                }
            }
            return sum;
        }
    }

    /** A TEXT, as steps over a pile of values: a number of the text, a name, or a sign's work on the topmost. */
    private static final class Law {
        /** Names stand as -1 .. -4; a sign as its byte with a minus, which is below them. */
        private static final int LAST_NAME = -4;

        final int[] steps = new int[MOST_BYTES];
        final int[] values = new int[MOST_VALUES];
        int size = 0;
        int key = ASK;
        int leaves = 0;

        void begin(int ofKey) {
            key = ofKey;
            size = 0;
            leaves = 0;
        }

        void addNumber(int v) {
            addStep(v);
            leaves++;
        }

        void addName(int index) {
            addStep(-1 - index);
            leaves++;
        }

        void addSign(int sign) {
            addStep(-sign);
        }

        private void addStep(int step) {
            if (isWithin(size, 0, steps.length - 1)) {
                steps[size] = step;
                size++;
            }
        }

        /** What it gives, with the values of the KEY's names in their order. */
        int gives(int first, int second, int third, int fourth) {
            int top = -1;
            for (int i = 0; i < size; i++) {
                int step = steps[i];
                if (step >= LAST_NAME) {
                    if (top + 1 < values.length) {
                        top++;
                        values[top] = step >= 0 ? step : named(step, first, second, third, fourth);
                    }
                } else if (step == -'!') {
                    if (top >= 0) {
                        values[top] = values[top] == 0 ? 1 : 0;
                    }
                } else if (top >= 1) {
                    top--;
                    values[top] = worked(-step, values[top], values[top + 1]);
                }
            }
            return top >= 0 ? values[top] : 0;
        }

        private static int named(int step, int first, int second, int third, int fourth) {
            switch (step) {
                case -1: return first;
                case -2: return second;
                case -3: return third;
                default: return fourth;
            }
        }

        private static int worked(int sign, int left, int right) {
            switch (sign) {
                case '|': return left != 0 || right != 0 ? 1 : 0;
                case '&': return left != 0 && right != 0 ? 1 : 0;
                case '<': return left < right ? 1 : 0;
                case '=': return left == right ? 1 : 0;
                case '>': return left > right ? 1 : 0;
                case '+': return left + right;
                case '-': return left - right;
                case '*': return left * right;
                default: return right == 0 ? 0 : left / right;
            }
        }
    }

    /** THE TAPE, and the word or sign on it that is looked at. */
    private static final class Tape {
        private static final int BLANK = 32;
        static final int END = 0, LETTERS = 1, DIGITS = 2, SIGN = 3, GLUED = 4;

        final int[] bytes = new int[MOST_BYTES];
        int size = 0;
        /** The part that is looked at: from start on, up to stop. */
        int sort = END;
        int start = 0;
        int stop = 0;

        void addFour(int v) {
            for (int shift = 24; shift >= 0; shift -= 8) {
                if (isWithin(size, 0, bytes.length - 1)) {
                    bytes[size] = v >>> shift & 255;
                    size++;
                }
            }
        }

        void lookAtFirst() {
            sort = END;
            stop = 0;
            lookAtNext();
        }

        void lookAtNext() {
            boolean behindWord = sort == LETTERS || sort == DIGITS;
            int wordEnd = stop;
            start = stop;
            while (start < size && byteAt(start) == BLANK) {
                start++;
            }
            sort = sortAt(start);
            stop = sort == END ? start : start + 1;
            if (sort == LETTERS || sort == DIGITS) {
                while (stop < size && sortAt(stop) == sort) {
                    stop++;
                }
                if (behindWord && start == wordEnd) {
                    sort = GLUED;
                }
            }
        }

        /** The byte of the sign that is looked at, or -1. */
        int sign() {
            return sort == SIGN ? byteAt(start) : -1;
        }

        boolean isWord(String word) {
            if (sort != LETTERS || stop - start != word.length()) {
                return false;
            }
            for (int i = 0; i < word.length(); i++) {
                if (byteAt(start + i) != word.charAt(i)) {
                    return false;
                }
            }
            return true;
        }

        boolean isNumber() {
            return sort == DIGITS && stop - start <= MOST_DIGITS;
        }

        int number() {
            int v = 0;
            for (int i = start; i < stop; i++) {
                v = v * 10 + byteAt(i) - '0';
            }
            return v;
        }

        /** Which of these letters the word is, or -1. */
        int nameAmong(String letters) {
            return sort == LETTERS && stop - start == 1 ? letters.indexOf((char) byteAt(start)) : -1;
        }

        private int byteAt(int place) {
            return place >= 0 && place < bytes.length ? bytes[place] : -1;
        }

        private int sortAt(int place) {
            if (place >= size) {
                return END;
            }
            int v = byteAt(place);
            if (v >= 'a' && v <= 'z') {
                return LETTERS;
            }
            return v >= '0' && v <= '9' ? DIGITS : SIGN;
        }
    }

    /** Reads THE TAPE as a TEXT. */
    private static final class Reader {
        private static final int OR = 0, AND = 1, TEST = 2, SUM = 3, TERM = 4, PIECE = 5;

        final Tape tape = new Tape();
        private int fault = -1;
        private int openBrackets = 0;
        private int openNots = 0;

        /** The place of the FAULT, or -1; the law is the TEXT then. */
        int findFault(Law law) {
            fault = -1;
            openBrackets = 0;
            openNots = 0;
            tape.lookAtFirst();
            readKey(law);
            readLevel(OR, law);
            if (tape.sort != Tape.END) {
                fail();
            }
            return fault;
        }

        /** The first FAULT is the one that counts. */
        private void fail() {
            if (fault < 0) {
                fault = tape.start;
            }
        }

        private void readKey(Law law) {
            for (int key = 0; key < KEYS; key++) {
                if (tape.isWord(wordOf(key))) {
                    law.begin(key);
                    tape.lookAtNext();
                    return;
                }
            }
            fail();
        }

        private static String wordOf(int key) {
            switch (key) {
                case ASK: return "ask";
                case FEE: return "fee";
                default: return "fine";
            }
        }

        private static String namesOf(int key) {
            switch (key) {
                case ASK: return "owtn";
                case FEE: return "sf";
                default: return "ow";
            }
        }

        /** The brackets and the ! that may be open keep this low. */
        private void readLevel(int level, Law law) {
            if (level >= PIECE) {
                readPiece(law);
                return;
            }
            readLevel(level + 1, law);
            int most = level == TEST ? 1 : MOST_BYTES;
            for (int i = 0; i < most && fault < 0 && levelOf(tape.sign()) == level; i++) {
                int sign = tape.sign();
                tape.lookAtNext();
                readLevel(level + 1, law);
                law.addSign(sign);
            }
        }

        private static int levelOf(int sign) {
            switch (sign) {
                case '|': return OR;
                case '&': return AND;
                case '<':
                case '=':
                case '>': return TEST;
                case '+':
                case '-': return SUM;
                case '*':
                case '/': return TERM;
                default: return -1;
            }
        }

        private void readPiece(Law law) {
            if (fault >= 0) {
                return;
            }
            int name = tape.nameAmong(namesOf(law.key));
            if (name >= 0) {
                law.addName(name);
                tape.lookAtNext();
            } else if (tape.isNumber()) {
                law.addNumber(tape.number());
                tape.lookAtNext();
            } else if (tape.sign() == '!' && openNots < MOST_OPEN) {
                readNot(law);
            } else if (tape.sign() == '(' && openBrackets < MOST_OPEN) {
                readBracket(law);
            } else {
                fail();
            }
        }

        private void readNot(Law law) {
            openNots++;
            tape.lookAtNext();
            readPiece(law);
            law.addSign('!');
            openNots--;
        }

        private void readBracket(Law law) {
            openBrackets++;
            tape.lookAtNext();
            readLevel(OR, law);
            if (fault < 0 && tape.sign() == ')') {
                tape.lookAtNext();
            } else {
                fail();
            }
            openBrackets--;
        }
    }

    /** The places of a SHEET; a place that is NO NUMBER holds NONE, which no number of a SHEET is. */
    private static final class Row {
        final int[] places = new int[MOST_PLACES];
        int sort = MISSING;
        int size = 0;

        boolean isMissing() {
            return sort == MISSING;
        }

        void become(int newSort, int n) {
            sort = newSort;
            size = held(n, 0, MOST_PLACES);
            for (int i = 0; i < places.length; i++) {
                places[i] = 0;
            }
        }

        void copyFrom(Row other) {
            sort = other.sort;
            size = other.size;
            for (int i = 0; i < places.length; i++) {
                places[i] = other.places[i];
            }
        }

        boolean hasPlace(int place) {
            return isWithin(place, 0, size - 1);
        }

        /** Also none at the end, as many is 0 there. */
        boolean hasPlaces(int place, int many) {
            return many >= 0 && isWithin(place, 0, size) && many <= size - place;
        }

        boolean hasNumber(int place) {
            return hasPlace(place) && places[place] != NONE;
        }
    }

    /** A SLOT, with room for each thing that it can hold. */
    private static final class Slot {
        final Guest guest = new Guest();
        final Row row = new Row();
        int thing = HOLDS_NOTHING;
        int number = 0;
    }
}
