/** The class and its model side by side: each call goes to both, and both must answer the same. */
final class Both {
    /** The calls by the numbers that stand for them here, and how many numbers each takes. */
    static final String[] NAMES = {"person", "told", "as", "turns", "set", "rule", "deal", "seed", "fewest", "sits", "evenings", "house",
        "behind", "meets", "door", "never", "becomes", "like", "fee", "fine", "feed", "trim", "text", "textTold", "why", "sheet",
        "mark", "pour", "reads", "copy", "lay", "ask", "item", "rest", "tell", "check", "keep", "back", "count"};
    static final int[] TAKES = {4, 2, 2, 2, 3, 2, 1, 1, 2, 1, 1, 1, 2, 2, 2, 2, 3, 2, 0, 1, 3, 1, 0, 2, 1, 3, 3, 1, 1, 5, 3, 2, 2, 2,
        1, 1, 0, 0, 1};
    static final int PERSON = 0, TOLD = 1, SET = 4, RULE = 5, DEAL = 6, SEED = 7, EVENINGS = 10, HOUSE = 11, FEE = 18, FEED = 20, TRIM = 21, TEXT = 22, SHEET = 25,
        MARK = 26, LAY = 30, TELL = 34, CHECK = 35, KEEP = 36, COUNT = 38;

    final TwelveShort x = new TwelveShort();
    final Model m = new Model();
    /** Of all calls, which may be 512. */
    int calls = 0;

    /** What both answer; what is beyond the numbers that the call takes does not count. */
    int call(int which, int... a) {
        calls++;
        int got = on(x, which, a);
        int want = which < 20 ? people(m, which, a) : things(m, which, a);
        if (got != want) {
            StringBuilder name = new StringBuilder(NAMES[which]);
            for (int i = 0; i < TAKES[which]; i++) {
                name.append(' ').append(a[i]);
            }
            Due.is(name.toString(), got, want);
        } else {
            Due.is(NAMES[which], got, want);
        }
        return got;
    }

    /** The text comes to the tape, which ends where the text does, and is told. */
    int text(String text) {
        call(TRIM, 0);
        feed(text);
        return call(TEXT);
    }

    void feed(String text) {
        for (int from = 0; from < text.length(); from += 12) {
            int[] a = new int[3];
            for (int i = 0; i < 12; i++) {
                a[i / 4] = a[i / 4] << 8 | (from + i < text.length() ? text.charAt(from + i) & 255 : 35);
            }
            call(FEED, a);
        }
        call(TRIM, text.length());
    }

    /** The call on the class alone. */
    static int on(TwelveShort o, int which, int[] a) {
        return which < 20 ? people(o, which, a) : things(o, which, a);
    }

    private static int people(TwelveShort o, int which, int[] a) {
        switch (which) {
            case 0: return o.person(a[0], a[1], a[2], a[3]);
            case 1: return o.told(a[0], a[1]);
            case 2: return o.as(a[0], a[1]);
            case 3: return o.turns(a[0], a[1]);
            case 4: return o.set(a[0], a[1], a[2]);
            case 5: return o.rule(a[0], a[1]);
            case 6: return o.deal(a[0]);
            case 7: return o.seed(a[0]);
            case 8: return o.fewest(a[0], a[1]);
            case 9: return o.sits(a[0]);
            case 10: return o.evenings(a[0]);
            case 11: return o.house(a[0]);
            case 12: return o.behind(a[0], a[1]);
            case 13: return o.meets(a[0], a[1]);
            case 14: return o.door(a[0], a[1]);
            case 15: return o.never(a[0], a[1]);
            case 16: return o.becomes(a[0], a[1], a[2]);
            case 17: return o.like(a[0], a[1]);
            case 18: return o.fee();
            default: return o.fine(a[0]);
        }
    }

    private static int things(TwelveShort o, int which, int[] a) {
        switch (which) {
            case 20: return o.feed(a[0], a[1], a[2]);
            case 21: return o.trim(a[0]);
            case 22: return o.text();
            case 23: return o.textTold(a[0], a[1]);
            case 24: return o.why(a[0]);
            case 25: return o.sheet(a[0], a[1], a[2]);
            case 26: return o.mark(a[0], a[1], a[2]);
            case 27: return o.pour(a[0]);
            case 28: return o.reads(a[0]);
            case 29: return o.copy(a[0], a[1], a[2], a[3], a[4]);
            case 30: return o.lay(a[0], a[1], a[2]);
            case 31: return o.ask(a[0], a[1]);
            case 32: return o.item(a[0], a[1]);
            case 33: return o.rest(a[0], a[1]);
            case 34: return o.tell(a[0]);
            case 35: return o.check(a[0]);
            case 36: return o.keep();
            case 37: return o.back();
            default: return o.count(a[0]);
        }
    }

    private static int people(Model o, int which, int[] a) {
        switch (which) {
            case 0: return o.person(a[0], a[1], a[2], a[3]);
            case 1: return o.told(a[0], a[1]);
            case 2: return o.as(a[0], a[1]);
            case 3: return o.turns(a[0], a[1]);
            case 4: return o.set(a[0], a[1], a[2]);
            case 5: return o.rule(a[0], a[1]);
            case 6: return o.deal(a[0]);
            case 7: return o.seed(a[0]);
            case 8: return o.fewest(a[0], a[1]);
            case 9: return o.sits(a[0]);
            case 10: return o.evenings(a[0]);
            case 11: return o.house(a[0]);
            case 12: return o.behind(a[0], a[1]);
            case 13: return o.meets(a[0], a[1]);
            case 14: return o.door(a[0], a[1]);
            case 15: return o.never(a[0], a[1]);
            case 16: return o.becomes(a[0], a[1], a[2]);
            case 17: return o.like(a[0], a[1]);
            case 18: return o.fee();
            default: return o.fine(a[0]);
        }
    }

    private static int things(Model o, int which, int[] a) {
        switch (which) {
            case 20: return o.feed(a[0], a[1], a[2]);
            case 21: return o.trim(a[0]);
            case 22: return o.text();
            case 23: return o.textTold(a[0], a[1]);
            case 24: return o.why(a[0]);
            case 25: return o.sheet(a[0], a[1], a[2]);
            case 26: return o.mark(a[0], a[1], a[2]);
            case 27: return o.pour(a[0]);
            case 28: return o.reads(a[0]);
            case 29: return o.copy(a[0], a[1], a[2], a[3], a[4]);
            case 30: return o.lay(a[0], a[1], a[2]);
            case 31: return o.ask(a[0], a[1]);
            case 32: return o.item(a[0], a[1]);
            case 33: return o.rest(a[0], a[1]);
            case 34: return o.tell(a[0]);
            case 35: return o.check(a[0]);
            case 36: return o.keep();
            case 37: return o.back();
            default: return o.count(a[0]);
        }
    }
}
