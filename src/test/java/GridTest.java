/**
 * Every call in three states (new, with some of everything, with as much of everything as there may be) with all the
 * values at the bounds of what it takes, each with each, compared with the model; and what is seen behind them.
 */
public final class GridTest {
    private static final int MIN = Integer.MIN_VALUE, MAX = Integer.MAX_VALUE;
    private static final int NEW = 0, SOME = 1, MOST = 2;
    private static final int CALLS = 512;
    private static final int[] PERSONS = {MIN, -1, 0, 4, 5, 6, 9, 10, MAX}, WHATS2 = {-1, 0, 1, 2}, KINDS = {-1, 0, 1, 2, 3, 4, 5, 6};
    private static final int[] SHEETS = {MIN, -1, 0, 1, 2, 3, 4, MAX}, SLOTS = {MIN, -1, 0, 1, 2, 3, 4, 5, MAX}, SIXTY = {-1, 0, 1, 60, 61};
    private static final int[] PLACES = {MIN, -1, 0, 1, 4, 5, 6, 23, 24, 25, MAX};
    private static final int[] ANY = {MIN, -1, 0, 1, MAX, TwelveShort.NONE};

    /** For each call of Both the values of what it takes. */
    private static final int[][][] VALUES = {
        {{MIN, -1, 0, 5, 6}, {-1, 0, 100, 101, MAX}, {MIN, -1, 0, 99, 100}, {-1, 0, 99, 100, MAX}},
        {PERSONS, {MIN, -1, 0, 1, 2, 3, 4, 5, 6, 7, 8, 9, MAX}},
        {PERSONS, KINDS},
        {PERSONS, KINDS},
        {PERSONS, {-1, 0, 1, 2, 3, 4, 5}, {MIN, -1, 0, 99, 100, 101, 9999, 10000, MAX}},
        {{MIN, -1, 0, 1, 2, MAX}, {MIN, -1, 0, 10, 11, 100, 101, MAX}},
        {{MIN, -1, 0, 1, 10, 11, MAX}},
        {ANY},
        {{MIN, -1, 0, 1, 50, 280, 281, 999, 1000, MAX}, WHATS2},
        {{MIN, -1, 0, 1, 31, 32, 63, 64, 1023, 1024, MAX}},
        {{MIN, -1, 0, 1, 100, 101, MAX}},
        {{MIN, -1, 0, 1, 2, 3, 4, 5, 6, 7, MAX}},
        {{MIN, -1, 0, 1, 100, 101, MAX}, {MIN, -1, 0, 3, 4, 5, 10, 11, 14, 15, MAX}},
        {PERSONS, PERSONS},
        {SIXTY, WHATS2},
        {SIXTY, WHATS2},
        {PERSONS, SIXTY, WHATS2},
        {SHEETS, WHATS2},
        {},
        {PERSONS},
        {ANY, ANY, ANY},
        {{MIN, -1, 0, 1, 12, 16, 17, 95, 96, 97, MAX}},
        {},
        {{MIN, -1, 0, 2, 3, 13, 14, MAX}, WHATS2},
        {{MIN, -1, 0, 1, 2, 3, MAX}},
        {SHEETS, {MIN, -2, -1, 0, 1, 2, MAX}, {MIN, -1, 0, 1, 24, 25, MAX}},
        {SHEETS, PLACES, {MIN, -100000, -99999, -32769, -1, 0, 32768, 99999, 100000, MAX, TwelveShort.NONE}},
        {SHEETS},
        {SHEETS},
        {{-1, 0, 1, 2, 3, 4}, {MIN, -1, 0, 4, 5, 24, 25}, {-1, 0, 1, 2, 3, 4}, {-1, 0, 1, 5, 23, 24, MAX}, {MIN, -1, 0, 1, 4, 5, 24, 25, MAX}},
        {SLOTS, {MIN, -1, 0, 1, 2, 3, 4, MAX}, {MIN, -1, 0, 3, 4, 5, 6, 9, 10, MAX}},
        {SLOTS, KINDS},
        {SLOTS, PLACES},
        {SLOTS, ANY},
        {ANY},
        {{MIN, -1, 0, 1, 2, 29, 30, 31, MAX}},
        {},
        {},
        {{MIN, -1, 0, 1, 2, 3, 4, 5, 6, 7, 8, MAX}},
    };

    public static void main(String[] args) {
        for (int state = NEW; state <= MOST; state++) {
            for (int which = 0; which < Both.NAMES.length; which++) {
                Due.is("values for all that " + Both.NAMES[which] + " takes", VALUES[which].length, Both.TAKES[which]);
                grid(state, which);
            }
        }
        Due.finish();
    }

    /** One object is asked as long as it has calls; then all that it shows is compared, and a new one is made. */
    private static void grid(int state, int which) {
        int[][] values = VALUES[which];
        int all = 1;
        for (int[] v : values) {
            all *= v.length;
        }
        Both both = made(state);
        for (int i = 0; i < all; i++) {
            if (both.calls + 1 > CALLS - 120) {
                see(both);
                both = made(state);
            }
            int[] a = new int[values.length];
            int rest = i;
            for (int j = 0; j < a.length; j++) {
                a[j] = values[j][rest % values[j].length];
                rest /= values[j].length;
            }
            both.call(which, a);
        }
        see(both);
    }

    private static Both made(int state) {
        Both both = new Both();
        if (state == SOME) {
            some(both);
        } else if (state == MOST) {
            most(both);
        }
        return both;
    }

    private static void some(Both both) {
        for (int kind = 0; kind < 5; kind++) {
            both.call(Both.PERSON, kind, 40 + 10 * kind, 30 - 7 * kind, 25 + 17 * kind);
        }
        both.call(Both.RULE, 0, 2);
        both.call(Both.RULE, 1, 25);
        both.text("ask o+t");
        both.text("fee s*3-f");
        both.call(Both.EVENINGS, 5);
        both.call(Both.KEEP);
        both.text("fine (o>50)*w");
        both.call(Both.PERSON, 5, 15, 3, 99);
        both.call(Both.EVENINGS, 7);
        both.call(Both.SHEET, 0, 0, 5);
        both.call(Both.MARK, 0, 1, 70000);
        both.call(Both.SHEET, 1, 1, 24);
        both.call(Both.MARK, 1, 1, TwelveShort.NONE);
        both.call(Both.SHEET, 2, 0, 0);
        both.call(Both.LAY, 1, 1, 3);
        both.call(Both.LAY, 2, 2, 1);
        both.call(Both.LAY, 3, 3, -17);
        both.call(Both.LAY, 4, 2, 0);
        tellRight(both, 2);
        both.feed("fine w*1234+o-77");
    }

    private static void most(Both both) {
        both.call(Both.SEED, 12);
        both.call(Both.DEAL, 10);
        both.call(Both.SET, 9, 4, 9999);
        both.call(Both.EVENINGS, 100);
        both.call(Both.KEEP);
        both.call(Both.RULE, 0, 10);
        both.call(Both.RULE, 1, 100);
        for (int i = 0; i < 99; i++) {
            both.call(Both.EVENINGS, 100);
        }
        for (int i = 0; i < 14; i++) {
            both.text(i % 3 == 0 ? "ask o" : i % 3 == 1 ? "fee f+" + i : "fine w-" + i);
        }
        for (int sheet = 0; sheet < 4; sheet++) {
            both.call(Both.SHEET, sheet, sheet % 2, 24);
        }
        both.call(Both.LAY, 0, 1, 9);
        both.call(Both.LAY, 1, 2, 0);
        both.call(Both.LAY, 3, 3, MIN);
        tellRight(both, 30);
        both.feed("fee s" + "+1".repeat(45) + "1");
    }

    private static void tellRight(Both both, int evenings) {
        Model.State s = both.m.image.twin();
        for (int i = 0; i < evenings; i++) {
            s.evening();
            both.call(Both.TELL, s.talk);
            both.call(Both.TELL, s.sum(1));
        }
    }

    private static void see(Both both) {
        for (int what = 0; what < 8; what++) {
            both.call(Both.COUNT, what);
        }
        for (int what = 0; what < 7; what++) {
            both.call(Both.HOUSE, what);
        }
        for (int p = 0; p < both.m.now.folk.size(); p++) {
            for (int what = 0; what < 9; what++) {
                both.call(Both.TOLD, p, what);
            }
        }
        both.call(Both.CHECK, 2);
        Due.is("calls of an object above " + CALLS, Math.max(0, both.calls - CALLS), 0);
    }
}
