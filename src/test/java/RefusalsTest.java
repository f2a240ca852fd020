/**
 * Every refusal that a promise names: by itself, two of them at once (the one that stands first answers), and that
 * behind it all is as it was, but THE TAPE and the numbers that wait, where told. In the order of the promises.
 */
public final class RefusalsTest {
    private static final int MIN = Integer.MIN_VALUE, MAX = Integer.MAX_VALUE;
    private static final int BAD = TwelveShort.BAD, NO = TwelveShort.NO, FULL = TwelveShort.FULL, NONE = TwelveShort.NONE;
    private static final int NOTHING = TwelveShort.NOTHING, KIND = TwelveShort.KIND, INDEX = TwelveShort.INDEX;
    private static final int SIZE = TwelveShort.SIZE;
    private static final Scene NEW = Scene.NEW, BUSY = Scene.BUSY, BRIM = Scene.BRIM;

    public static void main(String[] args) {
        scenesAreAsTold();
        p02person();
        p03told();
        p04as();
        p05turns();
        p06set();
        p07rule();
        p08deal();
        p10fewest();
        p11sits();
        p12evenings();
        p13house();
        p14behind();
        p15meets();
        p16door();
        p17never();
        p18becomes();
        p19like();
        p21fine();
        p22feed();
        p23trim();
        p24text();
        p25textTold();
        p26why();
        p27sheet();
        p28mark();
        p29pour();
        p30reads();
        p31copy();
        p32lay();
        p33ask();
        p34item();
        p35rest();
        p36tell();
        p37check();
        p39back();
        p40count();
        Due.finish();
    }

    /** The refusals below rest on these. */
    private static void scenesAreAsTold() {
        int[][] counts = {{0, 0, 3, 0, 0, 0, 0}, {6, 12, 3, 30, 3, 6, 16}, {10, 9999, 10, 100, 14, 60, 96}};
        for (Scene scene : Scene.values()) {
            TwelveShort x = scene.made();
            for (int what = 0; what < 7; what++) {
                Due.is(scene + ": count(" + what + ")", x.count(what), counts[scene.ordinal()][what]);
            }
        }
        for (int kind = 0; kind < 6; kind++) {
            Due.is("BUSY: KIND of " + kind, BUSY.made().told(kind, 0), kind == 3 ? 2 : kind);
        }
        Due.is("BUSY: right numbers wait", BUSY.made().check(3), 0);
        Due.is("BRIM: right numbers wait", BRIM.made().check(30), 0);
        TwelveShort x = BUSY.made();
        Due.is("BUSY: a right TEXT on the tape", x.text(), 3);
        Due.is("BUSY: it is fine", x.fine(2), x.told(2, 3) * 1234 + x.told(2, 1) - 77);
        TwelveShort y = BRIM.made();
        Due.is("BRIM: its IMAGE has nine PEOPLE", y.back(), 9);
        Due.is("BRIM: its IMAGE has room for TEXTS, and a right one is on the tape", y.text(), 5);
        Due.is("BRIM: it is fine", y.fine(1), y.told(1, 3) + 45 * y.told(1, 1));
        Due.is("NEW: no IMAGE", NEW.made().back(), NO);
    }

    private interface OfOne {
        int on(TwelveShort x, int v);
    }

    private static void refusesEach(Scene scene, String name, int want, int[] wrong, OfOne call) {
        for (int v : wrong) {
            scene.refuses(name + " of " + v, want, x -> call.on(x, v));
        }
    }

    /** The first on both sides that are beyond, and the farthest. */
    private static int[] outside(int least, int most) {
        return new int[] {least - 1, most + 1, MIN, MAX};
    }

    private static void p02person() {
        for (Scene scene : Scene.values()) {
            // In BRIM two at once, BAD and FULL: BAD stands first.
            refusesEach(scene, "2: KIND", BAD, outside(0, 5), (x, v) -> x.person(v, 1, 1, 1));
            refusesEach(scene, "2: ODDS", BAD, outside(0, 100), (x, v) -> x.person(0, v, 1, 1));
            refusesEach(scene, "2: STEPS", BAD, outside(0, 99), (x, v) -> x.person(0, 1, v, 1));
            refusesEach(scene, "2: WIT", BAD, outside(0, 99), (x, v) -> x.person(0, 1, 1, v));
            scene.refuses("2: all at once", BAD, x -> x.person(6, 101, 100, 100));
        }
        BRIM.refuses("2: an eleventh", FULL, x -> x.person(0, 0, 0, 0));
        BRIM.refuses("2: an eleventh, all at most", FULL, x -> x.person(5, 100, 99, 99));
    }

    private static void p03told() {
        refusesEach(NEW, "3: nobody", BAD, new int[] {0, 1, -1, MIN, MAX}, (x, v) -> x.told(v, 0));
        refusesEach(BUSY, "3: person", BAD, outside(0, 5), (x, v) -> x.told(v, 0));
        refusesEach(BUSY, "3: what", BAD, outside(0, 8), (x, v) -> x.told(0, v));
        refusesEach(BRIM, "3: person", BAD, outside(0, 9), (x, v) -> x.told(v, 8));
        BUSY.refuses("3: both", BAD, x -> x.told(6, 9));
        for (int what = 0; what <= 8; what++) {
            int w = what;
            BUSY.tells("3: it only tells", BUSY.made().told(4, w), x -> x.told(4, w));
        }
    }

    private static void p04as() {
        refusesEach(NEW, "4: nobody", BAD, new int[] {0, 1, -1, MIN, MAX}, (x, v) -> x.as(v, 0));
        refusesEach(BUSY, "4: person", BAD, outside(0, 5), (x, v) -> x.as(v, 0));
        refusesEach(BUSY, "4: kind (it is not of that KIND either, BAD stands first)", BAD, outside(0, 5), (x, v) -> x.as(0, v));
        BUSY.refuses("4: both", BAD, x -> x.as(6, 6));
        BUSY.refuses("4: a PERSON is no POET", KIND, x -> x.as(0, 1));
        BUSY.refuses("4: a POET is no THIEF, which is under POET", KIND, x -> x.as(1, 3));
        BUSY.refuses("4: a NEIGHBOUR is no LAMPLIGHTER, which is under NEIGHBOUR", KIND, x -> x.as(2, 4));
        BUSY.refuses("4: a LAMPLIGHTER is no POET", KIND, x -> x.as(4, 1));
        BUSY.refuses("4: one that was a THIEF is none", KIND, x -> x.as(3, 3));
        BUSY.refuses("4: a DOG is no NEIGHBOUR", KIND, x -> x.as(5, 2));
    }

    private static void p05turns() {
        refusesEach(NEW, "5: nobody", BAD, new int[] {0, -1}, (x, v) -> x.turns(v, 0));
        refusesEach(BUSY, "5: person", BAD, outside(0, 5), (x, v) -> x.turns(v, 5));
        refusesEach(BUSY, "5: kind", BAD, outside(0, 5), (x, v) -> x.turns(0, v));
        BUSY.refuses("5: both", BAD, x -> x.turns(-1, -1));
        refusesEach(BRIM, "5: person", BAD, outside(0, 9), (x, v) -> x.turns(v, 0));
    }

    private static void p06set() {
        refusesEach(NEW, "6: nobody", BAD, new int[] {0, -1}, (x, v) -> x.set(v, 1, 1));
        refusesEach(BUSY, "6: person", BAD, outside(0, 5), (x, v) -> x.set(v, 1, 1));
        refusesEach(BUSY, "6: what (KIND is none of them)", BAD, outside(1, 4), (x, v) -> x.set(0, v, 1));
        refusesEach(BUSY, "6: ODDS", BAD, outside(0, 100), (x, v) -> x.set(0, 1, v));
        refusesEach(BUSY, "6: STEPS", BAD, outside(0, 99), (x, v) -> x.set(0, 2, v));
        refusesEach(BUSY, "6: WIT", BAD, outside(0, 99), (x, v) -> x.set(0, 3, v));
        refusesEach(BUSY, "6: TIMES", BAD, outside(0, 9999), (x, v) -> x.set(0, 4, v));
        BUSY.refuses("6: all at once", BAD, x -> x.set(6, 5, -1));
        refusesEach(BRIM, "6: TIMES", BAD, outside(0, 9999), (x, v) -> x.set(9, 4, v));
    }

    private static void p07rule() {
        for (Scene scene : Scene.values()) {
            refusesEach(scene, "7: what", BAD, outside(0, 1), (x, v) -> x.rule(v, 1));
            refusesEach(scene, "7: NEVER", BAD, outside(0, 10), (x, v) -> x.rule(0, v));
            refusesEach(scene, "7: FOG", BAD, outside(0, 100), (x, v) -> x.rule(1, v));
            scene.refuses("7: both", BAD, x -> x.rule(2, 101));
        }
    }

    private static void p08deal() {
        for (Scene scene : Scene.values()) {
            refusesEach(scene, "8: n", BAD, outside(1, 10), (x, v) -> x.deal(v));
        }
        // No refusal, but no draws for others.
        for (int n = 1; n <= 10; n++) {
            int many = n;
            BRIM.tells("8: no room for any of " + n, 0, x -> x.deal(many));
        }
    }

    private static void p10fewest() {
        for (Scene scene : Scene.values()) {
            refusesEach(scene, "10: v", BAD, outside(0, 999), (x, v) -> x.fewest(v, 0));
            refusesEach(scene, "10: what", BAD, outside(0, 1), (x, v) -> x.fewest(0, v));
            scene.refuses("10: what, and not all bring so much", BAD, x -> x.fewest(999, 2));
            scene.refuses("10: v above, and not all bring so much", BAD, x -> x.fewest(1000, 1));
            scene.refuses("10: both", BAD, x -> x.fewest(-1, -1));
            scene.refuses("10: not all bring so much", NONE, x -> x.fewest(999, 0));
            scene.refuses("10: not all bring so much, how many", NONE, x -> x.fewest(999, 1));
        }
        NEW.refuses("10: nobody brings 1", NONE, x -> x.fewest(1, 0));
    }

    private static void p11sits() {
        refusesEach(NEW, "11: sets of nobody", BAD, new int[] {1, 2, 512, -1, MIN, MAX}, (x, v) -> x.sits(v));
        refusesEach(BUSY, "11: sets", BAD, new int[] {64, 65, 127, 512, 1024, -1, -64, MIN, MIN + 1, MAX}, (x, v) -> x.sits(v));
        refusesEach(BRIM, "11: sets", BAD, new int[] {1024, 1025, 2047, -1, -1024, MIN, MIN + 1, MAX}, (x, v) -> x.sits(v));
    }

    private static void p12evenings() {
        for (Scene scene : Scene.values()) {
            // In BRIM no evening would be, either.
            refusesEach(scene, "12: n", BAD, outside(1, 100), (x, v) -> x.evenings(v));
        }
        BRIM.tells("12: THE EVENING is 9999", 0, x -> x.evenings(1));
        BRIM.tells("12: THE EVENING is 9999, too", 0, x -> x.evenings(100));
    }

    private static void p13house() {
        for (Scene scene : Scene.values()) {
            refusesEach(scene, "13: what", BAD, outside(0, 6), (x, v) -> x.house(v));
            for (int what = 0; what <= 6; what++) {
                int w = what;
                scene.tells("13: it only tells", scene.made().house(w), x -> x.house(w));
            }
        }
        NEW.refuses("13: nobody", NONE, x -> x.house(6));
    }

    private static void p14behind() {
        for (Scene scene : Scene.values()) {
            int people = scene.made().count(0);
            refusesEach(scene, "14: n", BAD, outside(0, 100), (x, v) -> x.behind(v, 0));
            refusesEach(scene, "14: what", BAD, new int[] {-1, 5 + people, 6 + people, 15, MIN, MAX}, (x, v) -> x.behind(0, v));
            scene.refuses("14: both", BAD, x -> x.behind(101, 5 + people));
            scene.tells("14: only thought", scene.made().behind(100, 0), x -> x.behind(100, 0));
        }
        NEW.refuses("14: TIMES of nobody", BAD, x -> x.behind(1, 5));
    }

    private static void p15meets() {
        refusesEach(NEW, "15: nobody", BAD, new int[] {0, 1, -1}, (x, v) -> x.meets(v, 1 - v));
        refusesEach(BUSY, "15: person", BAD, outside(0, 5), (x, v) -> x.meets(v, 0));
        refusesEach(BUSY, "15: other", BAD, outside(0, 5), (x, v) -> x.meets(0, v));
        refusesEach(BUSY, "15: one and the same", BAD, new int[] {0, 3, 5}, (x, v) -> x.meets(v, v));
        refusesEach(BUSY, "15: one and the same, and nobody", BAD, new int[] {6, -1, MIN}, (x, v) -> x.meets(v, v));
        BRIM.refuses("15: person", BAD, x -> x.meets(10, 9));
        BUSY.tells("15: only thought", BUSY.made().meets(0, 1), x -> x.meets(0, 1));
    }

    private static void p16door() {
        for (Scene scene : Scene.values()) {
            // In NEW two at once, BAD and NONE: BAD stands first.
            refusesEach(scene, "16: n", BAD, outside(1, 60), (x, v) -> x.door(v, 0));
            refusesEach(scene, "16: what", BAD, outside(0, 1), (x, v) -> x.door(1, v));
            scene.refuses("16: both", BAD, x -> x.door(61, 2));
        }
        NEW.refuses("16: nobody is there", NONE, x -> x.door(1, 0));
        NEW.refuses("16: nobody is there, TALK", NONE, x -> x.door(60, 1));
        BUSY.tells("16: only thought", BUSY.made().door(60, 0), x -> x.door(60, 0));
    }

    private static void p17never() {
        for (Scene scene : Scene.values()) {
            refusesEach(scene, "17: n", BAD, outside(1, 60), (x, v) -> x.never(v, 0));
            refusesEach(scene, "17: what", BAD, outside(0, 1), (x, v) -> x.never(1, v));
            scene.refuses("17: both", BAD, x -> x.never(0, -1));
        }
        BUSY.tells("17: only thought", BUSY.made().never(60, 0), x -> x.never(60, 0));
    }

    private static void p18becomes() {
        refusesEach(NEW, "18: nobody", BAD, new int[] {0, -1}, (x, v) -> x.becomes(v, 1, 0));
        refusesEach(BUSY, "18: person", BAD, outside(0, 5), (x, v) -> x.becomes(v, 1, 0));
        refusesEach(BUSY, "18: n", BAD, outside(1, 60), (x, v) -> x.becomes(0, v, 0));
        refusesEach(BUSY, "18: what", BAD, outside(0, 1), (x, v) -> x.becomes(0, 1, v));
        BUSY.refuses("18: all at once", BAD, x -> x.becomes(6, 0, 2));
        BUSY.tells("18: only thought", BUSY.made().becomes(3, 60, 0), x -> x.becomes(3, 60, 0));
    }

    private static void p19like() {
        for (Scene scene : Scene.values()) {
            refusesEach(scene, "19: sheet", BAD, outside(0, 3), (x, v) -> x.like(v, 0));
            refusesEach(scene, "19: what (of a MISSING one in NEW and BUSY, BAD stands first)", BAD, outside(0, 1), (x, v) -> x.like(3, v));
        }
        NEW.refuses("19: MISSING, and nobody is there: NOTHING stands first", NOTHING, x -> x.like(0, 0));
        BUSY.refuses("19: MISSING", NOTHING, x -> x.like(3, 1));
        Due.is("19: nobody is there", ofSheet(0).like(0, 0), NONE);
        Due.is("19: nobody is there, the differences", ofSheet(24).like(0, 1), NONE);
        Due.is("19: what, and nobody is there: BAD stands first", ofSheet(24).like(0, 2), BAD);
        BUSY.tells("19: only thought", BUSY.made().like(1, 1), x -> x.like(1, 1));
    }

    /** A new one with SHEET 0 of so many shorts. */
    private static TwelveShort ofSheet(int n) {
        TwelveShort x = new TwelveShort();
        x.sheet(0, 0, n);
        return x;
    }

    private static void p21fine() {
        refusesEach(NEW, "21: nobody", BAD, new int[] {0, 1, -1}, (x, v) -> x.fine(v));
        refusesEach(BUSY, "21: person", BAD, outside(0, 5), (x, v) -> x.fine(v));
        refusesEach(BRIM, "21: person", BAD, outside(0, 9), (x, v) -> x.fine(v));
        BUSY.tells("21: it only tells", BUSY.made().fine(1), x -> x.fine(1));
        BUSY.tells("20: it only tells", BUSY.made().fee(), x -> x.fee());
    }

    private static void p22feed() {
        BRIM.refuses("22: more than 96", FULL, x -> x.feed(0x20202020, 0x20202020, 0x20202020));
        BRIM.refuses("22: more than 96, the wildest bytes", FULL, x -> x.feed(MIN, -1, MAX));
    }

    private static void p23trim() {
        refusesEach(NEW, "23: of no bytes", BAD, new int[] {1, 12, 96, -1, MIN, MAX}, (x, v) -> x.trim(v));
        refusesEach(BUSY, "23: of 16", BAD, new int[] {17, 24, 96, 97, -1, MIN, MAX}, (x, v) -> x.trim(v));
        refusesEach(BRIM, "23: of 96", BAD, outside(0, 96), (x, v) -> x.trim(v));
        BUSY.tells("23: all that it has", 16, x -> x.trim(16));
        BRIM.tells("23: all that it has", 96, x -> x.trim(96));
        NEW.tells("23: none of none", 0, x -> x.trim(0));
    }

    private static void p24text() {
        NEW.refusesOverTheTape("24: an empty tape ends too soon", -100, x -> x.text());
        BRIM.refusesOverTheTape("24: a fifteenth", FULL, x -> x.text());
        BUSY.refusesOverTheTape("24: a FAULT", -114, x -> x.trim(14) == 14 ? x.text() : 0);
        BUSY.refusesOverTheTape("24: a FAULT, the glued word", -107, x -> x.trim(0) == 0 ? Due.text(x, "fine 12o") : 0);
        BUSY.refusesOverTheTape("24: a FAULT of the KEY", -100, x -> x.trim(0) == 0 ? Due.text(x, "find 12") : 0);
        BRIM.refusesOverTheTape("24: a FAULT and FULL: the FAULT stands first", -196, x -> faultAtTheEnd(x));
        BRIM.refusesOverTheTape("24: no bytes and FULL: the FAULT stands first", -100, x -> x.trim(0) == 0 ? x.text() : 0);
        BRIM.refusesOverTheTape("24: FULL, whatever KEY it is", FULL, x -> x.trim(0) == 0 ? Due.text(x, "ask 1") : 0);
    }

    /** The last two of the 96 bytes are "*(", with which the end comes too soon. */
    private static int faultAtTheEnd(TwelveShort x) {
        x.trim(84);
        x.feed(0x2b6f2b6f, 0x2b6f2b6f, 0x2b6f2a28);
        return x.text();
    }

    private static void p25textTold() {
        refusesEach(NEW, "25: of no TEXT", BAD, new int[] {0, 1, -1, 13, 14}, (x, v) -> x.textTold(v, 0));
        refusesEach(BUSY, "25: text", BAD, outside(0, 2), (x, v) -> x.textTold(v, 0));
        refusesEach(BUSY, "25: what", BAD, outside(0, 1), (x, v) -> x.textTold(0, v));
        refusesEach(BRIM, "25: text", BAD, outside(0, 13), (x, v) -> x.textTold(v, 1));
        BUSY.refuses("25: both", BAD, x -> x.textTold(3, 2));
    }

    private static void p26why() {
        for (Scene scene : Scene.values()) {
            refusesEach(scene, "26: key", BAD, outside(0, 2), (x, v) -> x.why(v));
        }
        refusesEach(NEW, "26: no TEXT counts", NONE, new int[] {0, 1, 2}, (x, v) -> x.why(v));
    }

    private static void p27sheet() {
        for (Scene scene : Scene.values()) {
            refusesEach(scene, "27: sheet", BAD, outside(0, 3), (x, v) -> x.sheet(v, 0, 1));
            refusesEach(scene, "27: sheet, to be MISSING", BAD, outside(0, 3), (x, v) -> x.sheet(v, -1, 0));
            refusesEach(scene, "27: sort", BAD, outside(-1, 1), (x, v) -> x.sheet(0, v, 1));
            refusesEach(scene, "27: n above 24", BAD, new int[] {25, 26, MAX}, (x, v) -> x.sheet(0, 0, v));
            refusesEach(scene, "27: n above 24, of floats", BAD, new int[] {25, 26, MAX}, (x, v) -> x.sheet(1, 1, v));
            refusesEach(scene, "27: n below 0", SIZE, new int[] {-1, -2, MIN}, (x, v) -> x.sheet(0, 0, v));
            refusesEach(scene, "27: n below 0, of floats", SIZE, new int[] {-1, -2, MIN}, (x, v) -> x.sheet(1, 1, v));
            scene.refuses("27: sheet, and n below 0: BAD stands first", BAD, x -> x.sheet(4, 0, -1));
            scene.refuses("27: sort, and n below 0: BAD stands first", BAD, x -> x.sheet(0, 2, -1));
            scene.refuses("27: sort below -1, and n below 0: BAD stands first", BAD, x -> x.sheet(0, -2, MIN));
            scene.refuses("27: sheet, sort, n above 24", BAD, x -> x.sheet(-1, 2, 25));
        }
    }

    private static void p28mark() {
        for (Scene scene : Scene.values()) {
            refusesEach(scene, "28: sheet", BAD, outside(0, 3), (x, v) -> x.mark(v, 0, 1));
            scene.refuses("28: sheet, place, v: BAD stands first", BAD, x -> x.mark(4, -1, NONE));
        }
        NEW.refuses("28: MISSING", NOTHING, x -> x.mark(0, 0, 0));
        BUSY.refuses("28: MISSING", NOTHING, x -> x.mark(3, 0, 0));
        BUSY.refuses("28: MISSING, and no such place: NOTHING stands first", NOTHING, x -> x.mark(3, -1, 0));
        BUSY.refuses("28: MISSING, and v is none of floats: NOTHING stands first", NOTHING, x -> x.mark(3, 0, 100000));
        BUSY.refuses("28: MISSING, and NONE: NOTHING stands first", NOTHING, x -> x.mark(3, 0, NONE));
        refusesEach(BUSY, "28: place of 5 shorts", INDEX, outside(0, 4), (x, v) -> x.mark(0, v, 1));
        refusesEach(BUSY, "28: place of 24 floats", INDEX, outside(0, 23), (x, v) -> x.mark(1, v, 1));
        refusesEach(BUSY, "28: place of no shorts", INDEX, new int[] {0, 1, -1, MIN, MAX}, (x, v) -> x.mark(2, v, 1));
        BUSY.refuses("28: no such place, and NONE in shorts: INDEX stands first", INDEX, x -> x.mark(0, 5, NONE));
        BUSY.refuses("28: no such place, and v of floats: INDEX stands first", INDEX, x -> x.mark(1, 24, 100000));
        refusesEach(BUSY, "28: NONE in a row of shorts", KIND, new int[] {0, 1, 4}, (x, v) -> x.mark(0, v, NONE));
        int[] wrong = {100000, -100000, MIN, MAX, BAD, NO, FULL, NOTHING, NONE - 1, NONE + 1};
        refusesEach(BUSY, "28: v of floats", BAD, wrong, (x, v) -> x.mark(1, 0, v));
        refusesEach(BUSY, "28: v of floats, over NO NUMBER", BAD, wrong, (x, v) -> x.mark(1, 3, v));
    }

    private static void p29pour() {
        for (Scene scene : Scene.values()) {
            refusesEach(scene, "29: sheet", BAD, outside(0, 3), (x, v) -> x.pour(v));
        }
        refusesEach(NEW, "29: MISSING", NOTHING, new int[] {0, 1, 2, 3}, (x, v) -> x.pour(v));
        BUSY.refuses("29: MISSING", NOTHING, x -> x.pour(3));
        BUSY.tells("29: no places, nothing is otherwise", 0, x -> x.pour(2));
    }

    private static void p30reads() {
        for (Scene scene : Scene.values()) {
            refusesEach(scene, "30: sheet", BAD, outside(0, 3), (x, v) -> x.reads(v));
        }
        refusesEach(NEW, "30: MISSING", NOTHING, new int[] {0, 1, 2, 3}, (x, v) -> x.reads(v));
        BUSY.refuses("30: MISSING", NOTHING, x -> x.reads(3));
        BUSY.refuses("30: no places", NONE, x -> x.reads(2));
    }

    private static void p31copy() {
        for (Scene scene : Scene.values()) {
            refusesEach(scene, "31: from", BAD, outside(0, 3), (x, v) -> x.copy(v, 0, 0, 0, 0));
            refusesEach(scene, "31: to", BAD, outside(0, 3), (x, v) -> x.copy(0, 0, v, 0, 0));
            scene.refuses("31: to, and from is MISSING (or of a place that is none): BAD stands first", BAD, x -> x.copy(3, -1, 4, 0, 0));
            scene.refuses("31: from, and to is MISSING (or many is below 0): BAD stands first", BAD, x -> x.copy(-1, 0, 3, 0, -1));
        }
        NEW.refuses("31: both MISSING", NOTHING, x -> x.copy(0, 0, 0, 0, 0));
        BUSY.refuses("31: from MISSING", NOTHING, x -> x.copy(3, 0, 0, 0, 1));
        BUSY.refuses("31: to MISSING", NOTHING, x -> x.copy(0, 0, 3, 0, 1));
        BUSY.refuses("31: to MISSING, from floats", NOTHING, x -> x.copy(1, 0, 3, 0, 1));
        BUSY.refuses("31: MISSING, and many is below 0: NOTHING stands first", NOTHING, x -> x.copy(3, 0, 1, 0, -1));
        BUSY.refuses("31: MISSING, and no such place: NOTHING stands first", NOTHING, x -> x.copy(0, 5, 3, -1, 1));
        BUSY.refuses("31: shorts to floats", KIND, x -> x.copy(0, 0, 1, 0, 1));
        BUSY.refuses("31: floats to shorts", KIND, x -> x.copy(1, 0, 0, 0, 1));
        BUSY.refuses("31: none of shorts to floats", KIND, x -> x.copy(0, 0, 1, 0, 0));
        BUSY.refuses("31: two sorts, and many is below 0: KIND stands first", KIND, x -> x.copy(0, 0, 1, 0, -1));
        BUSY.refuses("31: two sorts, and no such place: KIND stands first", KIND, x -> x.copy(1, 24, 0, 5, 1));
        int[][] off = {{-1, 0, 1}, {0, -1, 1}, {5, 0, 1}, {0, 5, 1}, {4, 0, 2}, {0, 4, 2}, {0, 0, 6}, {0, 0, -1}, {-1, -1, 0},
            {-1, 0, 0}, {0, -1, 0}, {2, 2, -1}, {MIN, 0, 1}, {0, MIN, 1}, {MAX, 0, 1}, {0, MAX, 1}, {0, 0, MAX}, {0, 0, MIN},
            {1, 0, MAX}, {0, 1, MAX}, {MAX, MAX, MAX}, {MIN, MIN, MIN}};
        for (int[] o : off) {
            BUSY.refuses("31: of 5 to 5: " + o[0] + " " + o[1] + " " + o[2], INDEX, x -> x.copy(0, o[0], 0, o[1], o[2]));
        }
        BUSY.refuses("31: of 5 to none", INDEX, x -> x.copy(0, 0, 2, 0, 1));
        BUSY.refuses("31: of none to 5", INDEX, x -> x.copy(2, 0, 0, 0, 1));
        BUSY.refuses("31: of 24, one more", INDEX, x -> x.copy(1, 0, 1, 0, 25));
        BUSY.tells("31: of none to none, none", 0, x -> x.copy(2, 0, 2, 0, 0));
        BUSY.tells("31: all onto itself", 24, x -> x.copy(1, 0, 1, 0, 24));
    }

    private static void p32lay() {
        for (Scene scene : Scene.values()) {
            for (int thing = 0; thing <= 3; thing++) {
                int t = thing;
                refusesEach(scene, "32: slot, thing " + t, BAD, outside(0, 4), (x, v) -> x.lay(v, t, 0));
            }
            refusesEach(scene, "32: thing", BAD, outside(0, 3), (x, v) -> x.lay(0, v, 0));
            refusesEach(scene, "32: SHEET k", BAD, outside(0, 3), (x, v) -> x.lay(0, 2, v));
            scene.refuses("32: slot, and the SHEET is MISSING: BAD stands first", BAD, x -> x.lay(5, 2, 3));
            scene.refuses("32: slot, thing, k", BAD, x -> x.lay(-1, 4, -1));
            scene.refuses("32: slot, k", BAD, x -> x.lay(5, 1, -1));
        }
        refusesEach(NEW, "32: PERSON k of nobody", BAD, new int[] {0, 1, -1}, (x, v) -> x.lay(0, 1, v));
        refusesEach(BUSY, "32: PERSON k", BAD, outside(0, 5), (x, v) -> x.lay(1, 1, v));
        refusesEach(BRIM, "32: PERSON k", BAD, outside(0, 9), (x, v) -> x.lay(0, 1, v));
        refusesEach(NEW, "32: that SHEET is MISSING", NOTHING, new int[] {0, 1, 2, 3}, (x, v) -> x.lay(0, 2, v));
        for (int slot = 0; slot < 5; slot++) {
            int s = slot;
            BUSY.refuses("32: that SHEET is MISSING, SLOT " + s + " holds what it held", NOTHING, x -> x.lay(s, 2, 3));
        }
    }

    private static void p33ask() {
        for (Scene scene : Scene.values()) {
            refusesEach(scene, "33: slot", BAD, outside(0, 4), (x, v) -> x.ask(v, 0));
            refusesEach(scene, "33: kind", BAD, outside(0, 5), (x, v) -> x.ask(0, v));
            refusesEach(scene, "33: kind, of nothing or no PERSON: BAD stands first", BAD, outside(0, 5), (x, v) -> x.ask(3, v));
            scene.refuses("33: both", BAD, x -> x.ask(5, 6));
        }
        refusesEach(NEW, "33: holds nothing", NOTHING, new int[] {0, 1, 2, 3, 4, 5}, (x, v) -> x.ask(v % 5, v));
        BUSY.refuses("33: holds nothing", NOTHING, x -> x.ask(0, 0));
        BUSY.refuses("33: a SHEET", KIND, x -> x.ask(2, 0));
        BUSY.refuses("33: a number", KIND, x -> x.ask(3, 0));
        BUSY.refuses("33: a THIEF is no NEIGHBOUR, though that PERSON is one now", KIND, x -> x.ask(1, 2));
        BUSY.refuses("33: a THIEF is no LAMPLIGHTER", KIND, x -> x.ask(1, 4));
        BUSY.refuses("33: a THIEF is no DOG", KIND, x -> x.ask(1, 5));
    }

    private static void p34item() {
        for (Scene scene : Scene.values()) {
            refusesEach(scene, "34: slot", BAD, outside(0, 4), (x, v) -> x.item(v, 0));
            scene.refuses("34: slot, and no such place: BAD stands first", BAD, x -> x.item(5, -1));
        }
        NEW.refuses("34: holds nothing", NOTHING, x -> x.item(4, 0));
        BUSY.refuses("34: holds nothing, and no such place: NOTHING stands first", NOTHING, x -> x.item(0, -1));
        BUSY.refuses("34: a PERSON", KIND, x -> x.item(1, 0));
        BUSY.refuses("34: a number", KIND, x -> x.item(3, 0));
        BUSY.refuses("34: a PERSON, and no such place: KIND stands first", KIND, x -> x.item(1, -1));
        BUSY.refuses("34: a number, and no such place: KIND stands first", KIND, x -> x.item(3, 24));
        refusesEach(BUSY, "34: place of 24", INDEX, outside(0, 23), (x, v) -> x.item(2, v));
        refusesEach(BUSY, "34: place of 5", INDEX, outside(0, 4), (x, v) -> x.item(4, v));
        BUSY.refuses("34: NO NUMBER", KIND, x -> x.item(2, 3));
        TwelveShort y = new TwelveShort();
        y.sheet(0, 1, 0);
        y.lay(0, 2, 0);
        Due.is("34: a SHEET of no places", y.item(0, 0), INDEX);
    }

    private static void p35rest() {
        for (Scene scene : Scene.values()) {
            refusesEach(scene, "35: slot", BAD, outside(0, 4), (x, v) -> x.rest(v, 1));
            scene.refuses("35: slot, and n is 0: BAD stands first", BAD, x -> x.rest(5, 0));
        }
        NEW.refuses("35: holds nothing", NOTHING, x -> x.rest(4, 1));
        BUSY.refuses("35: holds nothing, and n is 0: NOTHING stands first", NOTHING, x -> x.rest(0, 0));
        BUSY.refuses("35: a PERSON", KIND, x -> x.rest(1, 1));
        BUSY.refuses("35: a SHEET", KIND, x -> x.rest(2, 1));
        BUSY.refuses("35: a PERSON, and n is 0: KIND stands first", KIND, x -> x.rest(1, 0));
        BUSY.refuses("35: a SHEET, and n is 0: KIND stands first", KIND, x -> x.rest(4, 0));
        BUSY.refuses("35: n is 0", NO, x -> x.rest(3, 0));
        BRIM.refuses("35: n is 0, of the least int", NO, x -> x.rest(3, 0));
    }

    private static void p36tell() {
        refusesEach(BRIM, "36: 60 wait", FULL, new int[] {0, 1, -1, NONE, MIN, MAX}, (x, v) -> x.tell(v));
    }

    private static void p37check() {
        for (Scene scene : Scene.values()) {
            // In NEW two at once, BAD and NO: BAD stands first.
            for (int n : outside(1, 30)) {
                scene.refusesOverTheNumbers("37: n of " + n, BAD, x -> x.check(n));
            }
        }
        NEW.refusesOverTheNumbers("37: there is no IMAGE", NO, x -> x.check(1));
        NEW.refusesOverTheNumbers("37: there is no IMAGE, numbers wait", NO, x -> x.tell(0) == 1 && x.tell(0) == 2 ? x.check(30) : 0);
        NEW.refusesOverTheNumbers("37: there is no IMAGE, numbers wait, and n", BAD, x -> x.tell(0) == 1 ? x.check(31) : 0);
        // No refusals, but they change no more than these.
        BUSY.refusesOverTheNumbers("37: all right", 0, x -> x.check(3));
        BUSY.refusesOverTheNumbers("37: too few", 7, x -> x.check(4));
        BUSY.refusesOverTheNumbers("37: one too many", 5, x -> x.check(2));
        BRIM.refusesOverTheNumbers("37: all right", 0, x -> x.check(30));
        BRIM.refusesOverTheNumbers("37: one too many", 59, x -> x.check(29));
    }

    private static void p39back() {
        NEW.refuses("39: there is none", NO, x -> x.back());
        TwelveShort x = new TwelveShort();
        x.person(1, 2, 3, 4);
        x.seed(5);
        Due.is("39: there is none", x.back(), NO);
        Due.is("39: the one stays", x.told(0, 3), 4);
        Due.is("39: z stays", x.count(7), 5);
    }

    private static void p40count() {
        for (Scene scene : Scene.values()) {
            refusesEach(scene, "40: what", BAD, outside(0, 7), (x, v) -> x.count(v));
            for (int what = 0; what <= 7; what++) {
                int w = what;
                scene.tells("40: it only tells", scene.made().count(w), x -> x.count(w));
            }
        }
    }
}
