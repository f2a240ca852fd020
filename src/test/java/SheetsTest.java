/** Promises 27 to 35. */
public final class SheetsTest {
    private static final int MIN = Integer.MIN_VALUE, MAX = Integer.MAX_VALUE;

    public static void main(String[] args) {
        sheet();
        mark();
        pour();
        reads();
        copy();
        lay();
        ask();
        item();
        rest();
        Due.finish();
    }

    /** A place of a sheet, by way of the last slot. */
    private static int place(TwelveShort x, int sheet, int place) {
        x.lay(4, 2, sheet);
        return x.item(4, place);
    }

    private static void sheet() {
        TwelveShort x = new TwelveShort();
        Due.is("27: sheet(0, 0, 24)", x.sheet(0, 0, 24), 24);
        Due.is("27: sheet(3, 1, 0)", x.sheet(3, 1, 0), 0);
        Due.is("27: sheet(4, 0, 1)", x.sheet(4, 0, 1), TwelveShort.BAD);
        Due.is("27: sheet(-1, 0, 1)", x.sheet(-1, 0, 1), TwelveShort.BAD);
        Due.is("27: sheet(0, 2, 1)", x.sheet(0, 2, 1), TwelveShort.BAD);
        Due.is("27: sheet(0, -2, 1)", x.sheet(0, -2, 1), TwelveShort.BAD);
        Due.is("27: sheet(0, 0, 25)", x.sheet(0, 0, 25), TwelveShort.BAD);
        Due.is("27: sheet(0, 0, -1)", x.sheet(0, 0, -1), TwelveShort.SIZE);
        Due.is("27: sheet(0, 2, -1)", x.sheet(0, 2, -1), TwelveShort.BAD);
        Due.is("27: sheet(0, 1, MIN)", x.sheet(0, 1, MIN), TwelveShort.SIZE);
        Due.is("27: the last place is still there", x.mark(0, 23, 9), 1);
        x.mark(0, 0, 9);
        Due.is("27: sheet(0, 0, 24) again", x.sheet(0, 0, 24), 24);
        Due.is("27: all 0", place(x, 0, 23), 0);
        Due.is("27: all 0", place(x, 0, 0), 0);
        Due.is("27: sheet(0, -1, 25)", x.sheet(0, -1, 25), 0);
        Due.is("27: MISSING", x.mark(0, 0, 1), TwelveShort.NOTHING);
        Due.is("27: sheet(0, -1, MIN)", x.sheet(0, -1, MIN), 0);
        Due.is("27: no places", x.mark(3, 0, 1), TwelveShort.INDEX);
    }

    private static void mark() {
        TwelveShort x = new TwelveShort();
        Due.is("28: mark(4, 0, 0)", x.mark(4, 0, 0), TwelveShort.BAD);
        Due.is("28: mark(-1, 0, 0)", x.mark(-1, 0, 0), TwelveShort.BAD);
        Due.is("28: MISSING", x.mark(0, 0, 0), TwelveShort.NOTHING);
        x.sheet(0, 0, 3);
        Due.is("28: mark(0, 3, NONE)", x.mark(0, 3, TwelveShort.NONE), TwelveShort.INDEX);
        Due.is("28: mark(0, -1, 0)", x.mark(0, -1, 0), TwelveShort.INDEX);
        Due.is("28: NONE of shorts", x.mark(0, 0, TwelveShort.NONE), TwelveShort.KIND);
        int[] shorts = {0, 32767, 32768, -32768, -32769, 65536, 100000, MIN, MAX, TwelveShort.BAD};
        for (int v : shorts) {
            Due.is("28: mark(0, 2, " + v + ")", x.mark(0, 2, v), 1);
            Due.is("28: its lowest 16 bits", place(x, 0, 2), (short) v);
        }
        x.sheet(1, 1, 2);
        Due.is("28: mark(1, 2, MAX)", x.mark(1, 2, MAX), TwelveShort.INDEX);
        Due.is("28: mark(1, 1, 99999)", x.mark(1, 1, 99999), 1);
        Due.is("28: mark(1, 1, 100000)", x.mark(1, 1, 100000), TwelveShort.BAD);
        Due.is("28: mark(1, 1, -100000)", x.mark(1, 1, -100000), TwelveShort.BAD);
        Due.is("28: it stays", place(x, 1, 1), 99999);
        Due.is("28: mark(1, 1, -99999)", x.mark(1, 1, -99999), 1);
        Due.is("28: it is so", place(x, 1, 1), -99999);
        Due.is("28: mark(1, 1, NONE)", x.mark(1, 1, TwelveShort.NONE), 1);
        Due.is("28: NO NUMBER", place(x, 1, 1), TwelveShort.KIND);
        Due.is("28: mark(1, 1, 0)", x.mark(1, 1, 0), 1);
        Due.is("28: a number again", place(x, 1, 1), 0);
    }

    private static void pour() {
        TwelveShort x = new TwelveShort();
        Due.is("29: pour(4)", x.pour(4), TwelveShort.BAD);
        Due.is("29: pour(-1)", x.pour(-1), TwelveShort.BAD);
        Due.is("29: MISSING", x.pour(3), TwelveShort.NOTHING);
        x.sheet(3, 1, 4);
        Due.is("29: nobody", x.pour(3), 0);
        for (int i = 0; i < 5; i++) {
            x.person(0, 50, 0, 0);
        }
        x.mark(3, 0, -7);
        x.mark(3, 1, TwelveShort.NONE);
        x.mark(3, 2, 50);
        x.mark(3, 3, 101);
        Due.is("29: pour(3)", x.pour(3), 2);
        int[] odds = {0, 50, 50, 100, 50};
        for (int p = 0; p < 5; p++) {
            Due.is("29: ODDS of " + p, x.told(p, 1), odds[p]);
        }
        Due.is("29: pour(3) again", x.pour(3), 0);
        x.sheet(3, 0, 24);
        Due.is("29: more places than PEOPLE", x.pour(3), 4);
    }

    private static void reads() {
        TwelveShort x = new TwelveShort();
        Due.is("30: reads(4)", x.reads(4), TwelveShort.BAD);
        Due.is("30: reads(-1)", x.reads(-1), TwelveShort.BAD);
        Due.is("30: MISSING", x.reads(0), TwelveShort.NOTHING);
        x.sheet(0, 1, 0);
        Due.is("30: no places", x.reads(0), TwelveShort.NONE);
        x.sheet(0, 1, 4);
        Due.is("30: nobody", x.reads(0), 0);
        x.person(0, 0, 10, 0);
        x.person(0, 0, 20, 0);
        x.mark(0, 0, 10);
        Due.is("30: 10 0 0 0", x.reads(0), 1);
        x.mark(0, 1, TwelveShort.NONE);
        Due.is("30: 10 - 0 0", x.reads(0), 2);
        x.mark(0, 2, TwelveShort.NONE);
        Due.is("30: 10 - - 0", x.reads(0), 3);
        x.mark(0, 3, TwelveShort.NONE);
        Due.is("30: 10 - - -", x.reads(0), TwelveShort.NONE);
        x.sheet(1, 0, 1);
        x.mark(1, 0, 10);
        Due.is("30: fewer places than PEOPLE", x.reads(1), TwelveShort.NONE);
    }

    private static void copy() {
        TwelveShort x = new TwelveShort();
        x.sheet(0, 0, 5);
        x.sheet(1, 0, 3);
        x.sheet(2, 1, 5);
        for (int i = 0; i < 5; i++) {
            x.mark(0, i, 10 + i);
        }
        Due.is("31: copy(4, ..)", x.copy(4, 0, 0, 0, 1), TwelveShort.BAD);
        Due.is("31: copy(.., 4, ..)", x.copy(3, 0, 4, 0, 1), TwelveShort.BAD);
        Due.is("31: copy(-1, ..)", x.copy(-1, 0, 0, 0, 1), TwelveShort.BAD);
        Due.is("31: from MISSING", x.copy(3, 0, 0, 0, 1), TwelveShort.NOTHING);
        Due.is("31: to MISSING", x.copy(0, 9, 3, 0, 1), TwelveShort.NOTHING);
        Due.is("31: of two sorts", x.copy(0, 9, 2, 0, 1), TwelveShort.KIND);
        int[][] off = {{-1, 0, 1}, {0, -1, 1}, {0, 0, -1}, {5, 0, 1}, {0, 3, 1}, {3, 0, 3}, {0, 1, 3}, {6, 0, 0}, {0, 4, 0},
            {1, 0, MAX}, {MAX, 0, 1}, {0, MAX, MAX}, {MIN, MIN, MIN}};
        for (int[] o : off) {
            Due.is("31: beyond", x.copy(0, o[0], 1, o[1], o[2]), TwelveShort.INDEX);
        }
        Due.is("31: none", x.copy(0, 5, 1, 3, 0), 0);
        Due.is("31: copy(0, 2, 1, 0, 3)", x.copy(0, 2, 1, 0, 3), 3);
        for (int i = 0; i < 3; i++) {
            Due.is("31: place " + i, place(x, 1, i), 12 + i);
        }
        Due.is("31: upwards in itself", x.copy(0, 0, 0, 1, 4), 4);
        int[] up = {10, 10, 11, 12, 13};
        for (int i = 0; i < 5; i++) {
            Due.is("31: place " + i, place(x, 0, i), up[i]);
        }
        Due.is("31: downwards in itself", x.copy(0, 1, 0, 0, 4), 4);
        int[] down = {10, 11, 12, 13, 13};
        for (int i = 0; i < 5; i++) {
            Due.is("31: place " + i, place(x, 0, i), down[i]);
        }
        x.mark(2, 0, TwelveShort.NONE);
        Due.is("31: NO NUMBER, too", x.copy(2, 0, 2, 4, 1), 1);
        Due.is("31: place 4", place(x, 2, 4), TwelveShort.KIND);
    }

    private static void lay() {
        TwelveShort x = new TwelveShort();
        x.person(0, 1, 2, 3);
        x.sheet(0, 0, 1);
        Due.is("32: lay(5, 0, 0)", x.lay(5, 0, 0), TwelveShort.BAD);
        Due.is("32: lay(-1, 0, 0)", x.lay(-1, 0, 0), TwelveShort.BAD);
        Due.is("32: lay(0, 4, 0)", x.lay(0, 4, 0), TwelveShort.BAD);
        Due.is("32: lay(0, -1, 0)", x.lay(0, -1, 0), TwelveShort.BAD);
        Due.is("32: lay(0, 1, 1)", x.lay(0, 1, 1), TwelveShort.BAD);
        Due.is("32: lay(0, 1, -1)", x.lay(0, 1, -1), TwelveShort.BAD);
        Due.is("32: lay(0, 2, 4)", x.lay(0, 2, 4), TwelveShort.BAD);
        Due.is("32: lay(0, 2, -1)", x.lay(0, 2, -1), TwelveShort.BAD);
        Due.is("32: lay(0, 2, 1)", x.lay(0, 2, 1), TwelveShort.NOTHING);
        Due.is("32: lay(0, 1, 0)", x.lay(0, 1, 0), 0);
        Due.is("32: lay(0, 2, 1) again", x.lay(0, 2, 1), TwelveShort.NOTHING);
        Due.is("32: lay(0, 2, 0)", x.lay(0, 2, 0), 1);
        Due.is("32: lay(0, 3, MIN)", x.lay(0, 3, MIN), 2);
        Due.is("32: lay(0, 0, MAX)", x.lay(0, 0, MAX), 3);
        Due.is("32: lay(0, 0, -1)", x.lay(0, 0, -1), 0);
        Due.is("32: lay(4, 3, 7)", x.lay(4, 3, 7), 0);
    }

    private static void ask() {
        TwelveShort x = new TwelveShort();
        Due.is("33: ask(5, 0)", x.ask(5, 0), TwelveShort.BAD);
        Due.is("33: ask(-1, 0)", x.ask(-1, 0), TwelveShort.BAD);
        Due.is("33: ask(0, 6)", x.ask(0, 6), TwelveShort.BAD);
        Due.is("33: ask(0, -1)", x.ask(0, -1), TwelveShort.BAD);
        Due.is("33: ask(0, 0)", x.ask(0, 0), TwelveShort.NOTHING);
        x.lay(0, 3, 1);
        Due.is("33: a number", x.ask(0, 0), TwelveShort.KIND);
        x.sheet(0, 0, 1);
        x.lay(0, 2, 0);
        Due.is("33: a SHEET", x.ask(0, 0), TwelveShort.KIND);
        int[] of = {0b000001, 0b000011, 0b000101, 0b001011, 0b010101, 0b100001};
        int[] worth = {47, 52, 69, 26, 76, 51};
        for (int kind = 0; kind < 6; kind++) {
            x.person(kind, 51, 30, 47);
            x.set(kind, 4, 5);
            x.lay(0, 1, kind);
            for (int k = 0; k < 6; k++) {
                int want = (of[kind] >> k & 1) == 1 ? worth[kind] : TwelveShort.KIND;
                Due.is("33: ask(0, " + k + ") of KIND " + kind, x.ask(0, k), want);
            }
        }
        x.lay(1, 1, 3);
        x.turns(3, 5);
        x.set(3, 3, 1);
        x.set(3, 4, 1);
        Due.is("33: as it was then, for good", x.ask(1, 3), 26);
        x.lay(1, 1, 3);
        Due.is("33: no THIEF now", x.ask(1, 3), TwelveShort.KIND);
        Due.is("33: a DOG", x.ask(1, 5), 51);
    }

    private static void item() {
        TwelveShort x = new TwelveShort();
        Due.is("34: item(5, 0)", x.item(5, 0), TwelveShort.BAD);
        Due.is("34: item(-1, 0)", x.item(-1, 0), TwelveShort.BAD);
        Due.is("34: item(0, 9)", x.item(0, 9), TwelveShort.NOTHING);
        x.lay(0, 3, 1);
        Due.is("34: a number", x.item(0, 9), TwelveShort.KIND);
        x.person(0, 0, 0, 0);
        x.lay(0, 1, 0);
        Due.is("34: a PERSON", x.item(0, 0), TwelveShort.KIND);
        x.sheet(2, 1, 2);
        x.mark(2, 0, 33);
        x.mark(2, 1, TwelveShort.NONE);
        x.lay(0, 2, 2);
        x.mark(2, 0, 44);
        x.mark(2, 1, 44);
        Due.is("34: as it was then", x.item(0, 0), 33);
        Due.is("34: NO NUMBER", x.item(0, 1), TwelveShort.KIND);
        Due.is("34: item(0, 2)", x.item(0, 2), TwelveShort.INDEX);
        Due.is("34: item(0, -1)", x.item(0, -1), TwelveShort.INDEX);
        x.sheet(2, -1, 0);
        Due.is("34: a row of its own", x.item(0, 0), 33);
    }

    private static void rest() {
        TwelveShort x = new TwelveShort();
        Due.is("35: rest(5, 0)", x.rest(5, 0), TwelveShort.BAD);
        Due.is("35: rest(-1, 0)", x.rest(-1, 0), TwelveShort.BAD);
        Due.is("35: rest(0, 0)", x.rest(0, 0), TwelveShort.NOTHING);
        x.person(0, 0, 0, 0);
        x.lay(0, 1, 0);
        Due.is("35: a PERSON", x.rest(0, 0), TwelveShort.KIND);
        x.sheet(0, 0, 0);
        x.lay(0, 2, 0);
        Due.is("35: a SHEET", x.rest(0, 1), TwelveShort.KIND);
        x.lay(0, 3, -17);
        Due.is("35: -17 by 0", x.rest(0, 0), TwelveShort.NO);
        Due.is("35: -17 by 5", x.rest(0, 5), -2);
        Due.is("35: -17 by -5", x.rest(0, -5), -2);
        Due.is("35: -17 by 100", x.rest(0, 100), -17);
        x.lay(0, 3, MIN);
        Due.is("35: MIN by -1", x.rest(0, -1), 0);
        x.lay(0, 3, TwelveShort.NONE);
        Due.is("35: NONE is a number here", x.rest(0, MIN), TwelveShort.NONE);
    }
}
