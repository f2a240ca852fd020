/** The sentences of the document's section 5 and of promises 27 to 35 that name a bound: a test of its own for each. */
public final class SheetsEdgesTest {
    private static final int MIN = Integer.MIN_VALUE, MAX = Integer.MAX_VALUE;
    private static final int SHORTS = 0, FLOATS = 1;
    private static final int NONE = TwelveShort.NONE, KIND = TwelveShort.KIND, INDEX = TwelveShort.INDEX;

    public static void main(String[] args) {
        p27sheetsFrom0To3();
        p27noneTo24Places();
        p27allPlacesAre0();
        p27missingAgain();
        p27ofOtherSizesAndSorts();
        p28theLowest16Bits();
        p28floatsUpTo99999();
        p28noNumber();
        p28theFirstAndTheLastPlace();
        p29heldWithin0And100();
        p29noNumberAndBeyondTheSheet();
        p29fewerPeopleThanPlaces();
        p29howManyAreOtherwise();
        p30theFirstPlaceThatIsNot();
        p30placesThatAreNobody();
        p30numbersAlone();
        p30stepsAtTheirEnds();
        p31noneAndAll();
        p31ontoItselfAsTheyWere();
        p31theLastPlaces();
        p31noneAtTheEnd();
        p31noNumberToo();
        p31ofDifferentSizes();
        p32slotsFrom0To4();
        p32whatItHeld();
        p32anyNumber();
        p32thePersonAsItIsThen();
        p32theSheetAsItWasThen();
        p32theLastPersonAndTheLastSheet();
        p33takenForOneOfAKind();
        p33worthAtTheEnds();
        p34theFirstAndTheLastPlace();
        p35restsOfTheEndsOfInt();
        p35restsBelow0();
        Due.finish();
    }

    /** A place of a SHEET, by way of SLOT 4. */
    private static int place(TwelveShort x, int sheet, int place) {
        x.lay(4, 2, sheet);
        return x.item(4, place);
    }

    /** SHEET 0 with these places, for NONE NO NUMBER. */
    private static TwelveShort of(int sort, int... places) {
        TwelveShort x = new TwelveShort();
        x.sheet(0, sort, places.length);
        for (int i = 0; i < places.length; i++) {
            x.mark(0, i, places[i]);
        }
        return x;
    }

    private static void seeAll(String name, TwelveShort x, int sheet, int... due) {
        for (int i = 0; i < due.length; i++) {
            Due.is(name + ", place " + i, place(x, sheet, i), due[i]);
        }
        Due.is(name + ", behind the last", place(x, sheet, due.length), INDEX);
    }

    /** "SHEETS 0 .. 3" */
    private static void p27sheetsFrom0To3() {
        TwelveShort x = new TwelveShort();
        for (int sheet = 0; sheet <= 3; sheet++) {
            Due.is("27: SHEET " + sheet, x.sheet(sheet, SHORTS, 1 + sheet), 1 + sheet);
            x.mark(sheet, 0, 100 + sheet);
        }
        for (int sheet = 0; sheet <= 3; sheet++) {
            Due.is("27: SHEET " + sheet + ", place 0", place(x, sheet, 0), 100 + sheet);
            Due.is("27: SHEET " + sheet + ", its last place", x.mark(sheet, sheet, 5), 1);
            Due.is("27: SHEET " + sheet + ", behind its last place", x.mark(sheet, 1 + sheet, 5), INDEX);
        }
        Due.is("27: SHEET 4", x.sheet(4, SHORTS, 1), TwelveShort.BAD);
        Due.is("27: SHEET -1", x.sheet(-1, SHORTS, 1), TwelveShort.BAD);
    }

    /** "with 0 to 24 places" */
    private static void p27noneTo24Places() {
        for (int sort = 0; sort <= 1; sort++) {
            for (int n = 0; n <= 24; n++) {
                TwelveShort x = new TwelveShort();
                Due.is("27: " + n + " places of sort " + sort, x.sheet(2, sort, n), n);
                Due.is("28: behind the last", x.mark(2, n, 1), INDEX);
                Due.is("28: the last", x.mark(2, n - 1, 1), n == 0 ? INDEX : 1);
            }
            TwelveShort y = new TwelveShort();
            Due.is("27: 25 places", y.sheet(2, sort, 25), TwelveShort.BAD);
            Due.is("27: -1 places", y.sheet(2, sort, -1), TwelveShort.SIZE);
            Due.is("27: still MISSING", y.pour(2), TwelveShort.NOTHING);
        }
    }

    /** "A SHEET becomes a row of n places of a sort, all 0" */
    private static void p27allPlacesAre0() {
        for (int sort = 0; sort <= 1; sort++) {
            TwelveShort x = new TwelveShort();
            x.sheet(1, FLOATS, 24);
            for (int i = 0; i < 24; i++) {
                x.mark(1, i, i % 2 == 0 ? NONE : 7);
            }
            Due.is("27: again", x.sheet(1, sort, 24), 24);
            seeAll("27: all 0", x, 1, new int[24]);
        }
    }

    /** "(sort -1: MISSING, n any): n (0)" */
    private static void p27missingAgain() {
        int[] any = {0, 1, 24, 25, -1, MIN, MAX};
        for (int n : any) {
            TwelveShort x = of(SHORTS, 5, 6);
            Due.is("27: MISSING, n " + n, x.sheet(0, -1, n), 0);
            Due.is("28: MISSING", x.mark(0, 0, 1), TwelveShort.NOTHING);
            Due.is("29: MISSING", x.pour(0), TwelveShort.NOTHING);
            Due.is("30: MISSING", x.reads(0), TwelveShort.NOTHING);
            Due.is("31: MISSING", x.copy(0, 0, 0, 0, 0), TwelveShort.NOTHING);
            Due.is("32: MISSING", x.lay(0, 2, 0), TwelveShort.NOTHING);
            Due.is("19: MISSING", x.like(0, 0), TwelveShort.NOTHING);
            Due.is("27: MISSING, once more", x.sheet(0, -1, n), 0);
            Due.is("27: a row again", x.sheet(0, SHORTS, 2), 2);
            seeAll("27: a row again", x, 0, 0, 0);
        }
        Due.is("27: sort -2", of(SHORTS, 5).sheet(0, -2, 0), TwelveShort.BAD);
    }

    private static void p27ofOtherSizesAndSorts() {
        TwelveShort x = of(SHORTS, 1, 2, 3);
        Due.is("27: fewer places", x.sheet(0, SHORTS, 1), 1);
        seeAll("27: fewer places", x, 0, 0);
        Due.is("27: more places", x.sheet(0, SHORTS, 4), 4);
        seeAll("27: more places", x, 0, 0, 0, 0, 0);
        Due.is("28: NONE in shorts", x.mark(0, 0, NONE), KIND);
        Due.is("27: of floats", x.sheet(0, FLOATS, 1), 1);
        Due.is("28: NONE in floats", x.mark(0, 0, NONE), 1);
        Due.is("27: of shorts", x.sheet(0, SHORTS, 1), 1);
        Due.is("28: NONE in shorts", x.mark(0, 0, NONE), KIND);
        seeAll("27: of shorts", x, 0, 0);
    }

    /** "of shorts its lowest 16 bits" */
    private static void p28theLowest16Bits() {
        TwelveShort x = of(SHORTS, 0);
        int[][] due = {{0, 0}, {1, 1}, {-1, -1}, {32766, 32766}, {32767, 32767}, {32768, -32768}, {32769, -32767}, {-32767, -32767},
            {-32768, -32768}, {-32769, 32767}, {65535, -1}, {65536, 0}, {65537, 1}, {-65535, 1}, {-65536, 0}, {-65537, -1},
            {98303, 32767}, {98304, -32768}, {MIN, 0}, {MAX, -1}, {MIN + 1, 1}, {MAX - 1, -2}, {100000, -31072}, {-100000, 31072},
            {TwelveShort.BAD, 13823}, {NONE + 1, 13820}, {NONE - 1, 13818}};
        for (int[] d : due) {
            Due.is("28: " + d[0], x.mark(0, 0, d[0]), 1);
            Due.is("28: " + d[0] + " of shorts", place(x, 0, 0), d[1]);
        }
        Due.is("28: NONE in a row of shorts", x.mark(0, 0, NONE), KIND);
        Due.is("28: it stays", place(x, 0, 0), 13818);
    }

    /** "of floats v, -99999 .. 99999"; "BAD: v of floats" */
    private static void p28floatsUpTo99999() {
        TwelveShort x = of(FLOATS, 7);
        int[] fine = {99999, -99999, 0, 99998, -99998, 32768, -32769, 65536, 1, -1};
        for (int v : fine) {
            Due.is("28: " + v, x.mark(0, 0, v), 1);
            Due.is("28: " + v + " of floats", place(x, 0, 0), v);
        }
        int[] beyond = {100000, -100000, MIN, MAX, NONE + 1, NONE - 1, TwelveShort.BAD, TwelveShort.NO};
        for (int v : beyond) {
            Due.is("28: " + v, x.mark(0, 0, v), TwelveShort.BAD);
            Due.is("28: it stays", place(x, 0, 0), -1);
        }
    }

    /** "NONE: NO NUMBER" */
    private static void p28noNumber() {
        TwelveShort x = of(FLOATS, 1, 2, 3);
        Due.is("28: NONE", x.mark(0, 1, NONE), 1);
        seeAll("28: NONE", x, 0, 1, KIND, 3);
        Due.is("28: NONE again", x.mark(0, 1, NONE), 1);
        Due.is("28: a wrong number over it", x.mark(0, 1, 100000), TwelveShort.BAD);
        seeAll("28: NONE", x, 0, 1, KIND, 3);
        Due.is("28: a number over it", x.mark(0, 1, 0), 1);
        seeAll("28: a number", x, 0, 1, 0, 3);
    }

    /** "INDEX: there is no such place" */
    private static void p28theFirstAndTheLastPlace() {
        for (int sort = 0; sort <= 1; sort++) {
            TwelveShort x = of(sort, new int[24]);
            Due.is("28: place -1", x.mark(0, -1, 1), INDEX);
            Due.is("28: place 0", x.mark(0, 0, 11), 1);
            Due.is("28: place 23", x.mark(0, 23, 22), 1);
            Due.is("28: place 24", x.mark(0, 24, 1), INDEX);
            Due.is("28: place 0", place(x, 0, 0), 11);
            Due.is("28: place 1", place(x, 0, 1), 0);
            Due.is("28: place 22", place(x, 0, 22), 0);
            Due.is("28: place 23", place(x, 0, 23), 22);
        }
    }

    private static void people(TwelveShort x, int many, int odds, int steps) {
        for (int i = 0; i < many; i++) {
            x.person(i % 6, odds, steps, 0);
        }
    }

    /** "each held within 0 and 100" */
    private static void p29heldWithin0And100() {
        int[][] due = {{0, 0}, {1, 1}, {-1, 0}, {99, 99}, {100, 100}, {101, 100}, {32767, 100}, {-32768, 0}};
        for (int sort = 0; sort <= 1; sort++) {
            for (int[] d : due) {
                TwelveShort x = of(sort, d[0]);
                people(x, 1, 50, 0);
                Due.is("29: " + d[0], x.pour(0), 1);
                Due.is("29: " + d[0] + ", ODDS", x.told(0, 1), d[1]);
                Due.is("29: " + d[0] + " again", x.pour(0), 0);
            }
        }
        int[][] floats = {{99999, 100}, {-99999, 0}};
        for (int[] d : floats) {
            TwelveShort x = of(FLOATS, d[0]);
            people(x, 1, 50, 0);
            Due.is("29: " + d[0], x.pour(0), 1);
            Due.is("29: " + d[0] + ", ODDS", x.told(0, 1), d[1]);
        }
    }

    /** "NO NUMBER, and beyond the SHEET: it stays" */
    private static void p29noNumberAndBeyondTheSheet() {
        TwelveShort x = of(FLOATS, NONE, 7, NONE);
        people(x, 10, 50, 0);
        Due.is("29: one is otherwise", x.pour(0), 1);
        for (int p = 0; p < 10; p++) {
            Due.is("29: ODDS of " + p, x.told(p, 1), p == 1 ? 7 : 50);
        }
        TwelveShort y = of(SHORTS);
        people(y, 10, 50, 0);
        Due.is("29: no places", y.pour(0), 0);
        Due.is("29: ODDS of all", y.house(4), 500);
        TwelveShort z = of(FLOATS, NONE, NONE);
        people(z, 2, 50, 0);
        Due.is("29: no numbers", z.pour(0), 0);
        Due.is("29: ODDS of all", z.house(4), 100);
        for (int n = 0; n <= 12; n++) {
            TwelveShort w = of(SHORTS, new int[n]);
            people(w, 10, 50, 0);
            Due.is("29: " + n + " places, ten PEOPLE", w.pour(0), Math.min(n, 10));
            Due.is("29: ODDS of all", w.house(4), 50 * (10 - Math.min(n, 10)));
        }
    }

    private static void p29fewerPeopleThanPlaces() {
        for (int many = 0; many <= 10; many++) {
            TwelveShort x = of(SHORTS, new int[24]);
            people(x, many, 50, 0);
            Due.is("29: 24 places, PEOPLE " + many, x.pour(0), many);
            Due.is("29: how many PEOPLE", x.count(0), many);
            Due.is("29: ODDS of all", x.house(4), 0);
        }
    }

    /** "how many are otherwise then": held first, then compared. */
    private static void p29howManyAreOtherwise() {
        TwelveShort x = of(SHORTS, 100, 101, -1, 0, 100, 99);
        int[] odds = {100, 100, 0, 0, 99, 100};
        for (int v : odds) {
            x.person(0, v, 0, 0);
        }
        Due.is("29: the last two", x.pour(0), 2);
        int[] due = {100, 100, 0, 0, 100, 99};
        for (int p = 0; p < due.length; p++) {
            Due.is("29: ODDS of " + p, x.told(p, 1), due[p]);
        }
    }

    /** "The first place .. at which a SHEET is not the STEPS of that PERSON"; "NONE: there is none." */
    private static void p30theFirstPlaceThatIsNot() {
        for (int sort = 0; sort <= 1; sort++) {
            TwelveShort x = of(sort, new int[10]);
            people(x, 10, 0, 0);
            Due.is("30: all are", x.reads(0), NONE);
            for (int place = 9; place >= 0; place--) {
                x.mark(0, place, 1);
                Due.is("30: from " + place + " on not", x.reads(0), place);
            }
            x.mark(0, 0, -1);
            Due.is("30: -1 is not 0", x.reads(0), 0);
        }
    }

    /** "(of places that are nobody all numbers are not)" */
    private static void p30placesThatAreNobody() {
        for (int many = 0; many <= 10; many++) {
            for (int n = 0; n <= 12; n++) {
                TwelveShort x = of(SHORTS, new int[n]);
                people(x, many, 0, 0);
                Due.is("30: " + n + " places, PEOPLE " + many, x.reads(0), n <= many ? NONE : many);
            }
        }
    }

    /** "(of numbers alone)" */
    private static void p30numbersAlone() {
        TwelveShort x = of(FLOATS, NONE, NONE, NONE);
        Due.is("30: no numbers, nobody", x.reads(0), NONE);
        people(x, 2, 0, 5);
        Due.is("30: no numbers", x.reads(0), NONE);
        x.mark(0, 2, 0);
        Due.is("30: a number behind all PEOPLE", x.reads(0), 2);
        x.mark(0, 1, 5);
        Due.is("30: a right one ahead of it", x.reads(0), 2);
        x.mark(0, 1, 6);
        Due.is("30: a wrong one ahead of it", x.reads(0), 1);
    }

    private static void p30stepsAtTheirEnds() {
        int[][] due = {{0, 0, NONE}, {99, 99, NONE}, {99, 98, 0}, {0, 1, 0}, {98, 99, 0}, {1, 0, 0}};
        for (int sort = 0; sort <= 1; sort++) {
            for (int[] d : due) {
                TwelveShort x = of(sort, d[0]);
                x.person(1, 7, d[1], 7);
                Due.is("30: " + d[0] + ", STEPS " + d[1], x.reads(0), d[2]);
            }
        }
        TwelveShort y = of(SHORTS, 65536 + 44);
        y.person(1, 7, 44, 7);
        Due.is("30: by what the short is", y.reads(0), NONE);
    }

    /** "So many places of a SHEET come to another one (or the same), as they were: many." */
    private static void p31noneAndAll() {
        for (int sort = 0; sort <= 1; sort++) {
            TwelveShort x = of(sort, 1, 2, 3);
            x.sheet(1, sort, 3);
            Due.is("31: none", x.copy(0, 0, 1, 0, 0), 0);
            seeAll("31: none", x, 1, 0, 0, 0);
            Due.is("31: one", x.copy(0, 0, 1, 2, 1), 1);
            seeAll("31: one", x, 1, 0, 0, 1);
            Due.is("31: all", x.copy(0, 0, 1, 0, 3), 3);
            seeAll("31: all", x, 1, 1, 2, 3);
            seeAll("31: from", x, 0, 1, 2, 3);
            Due.is("31: one more than all", x.copy(0, 0, 1, 0, 4), INDEX);
            Due.is("31: one less than none", x.copy(0, 0, 1, 0, -1), INDEX);
            // What has come is its own: no change on one side is seen on the other.
            x.mark(0, 0, 9);
            x.mark(1, 1, 8);
            seeAll("31: from", x, 0, 9, 2, 3);
            seeAll("31: to", x, 1, 1, 8, 3);
        }
    }

    /** "(or the same), as they were" */
    private static void p31ontoItselfAsTheyWere() {
        int[] row = {1, 2, 3, 4, 5, 6};
        for (int from = 0; from <= 6; from++) {
            for (int to = 0; to <= 6; to++) {
                for (int many = 0; many <= 6 - Math.max(from, to); many++) {
                    TwelveShort x = of(SHORTS, row);
                    int[] due = row.clone();
                    System.arraycopy(row, from, due, to, many);
                    String name = "31: in itself from " + from + " to " + to + ", " + many;
                    Due.is(name, x.copy(0, from, 0, to, many), many);
                    seeAll(name, x, 0, due);
                }
            }
        }
    }

    private static void p31theLastPlaces() {
        TwelveShort x = of(SHORTS, new int[24]);
        x.mark(0, 23, 5);
        x.sheet(3, SHORTS, 24);
        Due.is("31: the last to the first", x.copy(0, 23, 3, 0, 1), 1);
        Due.is("31: the first", place(x, 3, 0), 5);
        Due.is("31: the first to the last", x.copy(3, 0, 3, 23, 1), 1);
        Due.is("31: the last", place(x, 3, 23), 5);
        Due.is("31: all 24", x.copy(3, 0, 0, 0, 24), 24);
        Due.is("31: the first", place(x, 0, 0), 5);
        Due.is("31: behind the last", x.copy(0, 24, 3, 0, 1), INDEX);
        Due.is("31: to behind the last", x.copy(0, 0, 3, 24, 1), INDEX);
        Due.is("31: two from the last", x.copy(0, 23, 3, 0, 2), INDEX);
        Due.is("31: two to the last", x.copy(0, 0, 3, 23, 2), INDEX);
        Due.is("31: ahead of the first", x.copy(0, -1, 3, 0, 1), INDEX);
        Due.is("31: to ahead of the first", x.copy(0, 0, 3, -1, 1), INDEX);
    }

    /** No places right behind the last one, or of no places at all: there is nothing of which it could be said that it is not there. */
    private static void p31noneAtTheEnd() {
        TwelveShort x = of(SHORTS, 1, 2);
        x.sheet(1, SHORTS, 0);
        Due.is("31: none from behind the last", x.copy(0, 2, 0, 0, 0), 0);
        Due.is("31: none to behind the last", x.copy(0, 0, 0, 2, 0), 0);
        Due.is("31: none from farther behind", x.copy(0, 3, 0, 0, 0), INDEX);
        Due.is("31: none to farther behind", x.copy(0, 0, 0, 3, 0), INDEX);
        Due.is("31: none from ahead", x.copy(0, -1, 0, 0, 0), INDEX);
        Due.is("31: none to ahead", x.copy(0, 0, 0, -1, 0), INDEX);
        Due.is("31: none of none", x.copy(1, 0, 1, 0, 0), 0);
        Due.is("31: none of none to two", x.copy(1, 0, 0, 2, 0), 0);
        Due.is("31: one of none", x.copy(1, 0, 0, 0, 1), INDEX);
        Due.is("31: one to none", x.copy(0, 0, 1, 0, 1), INDEX);
    }

    private static void p31noNumberToo() {
        TwelveShort x = of(FLOATS, NONE, -99999, NONE, 99999);
        x.sheet(1, FLOATS, 4);
        Due.is("31: all", x.copy(0, 0, 1, 0, 4), 4);
        seeAll("31: all", x, 1, KIND, -99999, KIND, 99999);
        Due.is("31: numbers over NO NUMBER", x.copy(0, 1, 1, 0, 1), 1);
        Due.is("31: NO NUMBER over numbers", x.copy(0, 2, 1, 3, 1), 1);
        seeAll("31: then", x, 1, -99999, -99999, KIND, KIND);
    }

    private static void p31ofDifferentSizes() {
        TwelveShort x = of(SHORTS, 1, 2, 3, 4, 5);
        x.sheet(1, SHORTS, 2);
        Due.is("31: as many as are there", x.copy(0, 3, 1, 0, 2), 2);
        seeAll("31: as many as are there", x, 1, 4, 5);
        Due.is("31: one too many to", x.copy(0, 0, 1, 0, 3), INDEX);
        Due.is("31: one too many from", x.copy(1, 0, 0, 0, 3), INDEX);
        Due.is("31: two", x.copy(1, 0, 0, 3, 2), 2);
        Due.is("31: two, one farther", x.copy(1, 0, 0, 4, 2), INDEX);
        seeAll("31: then", x, 0, 1, 2, 3, 4, 5);
    }

    /** "SLOTS 0 .. 4 each hold nothing (at first)" */
    private static void p32slotsFrom0To4() {
        TwelveShort x = new TwelveShort();
        for (int slot = 0; slot <= 4; slot++) {
            Due.is("33: nothing at first", x.ask(slot, 0), TwelveShort.NOTHING);
            Due.is("34: nothing at first", x.item(slot, 0), TwelveShort.NOTHING);
            Due.is("35: nothing at first", x.rest(slot, 1), TwelveShort.NOTHING);
            Due.is("32: a number", x.lay(slot, 3, 100 + slot), 0);
        }
        for (int slot = 0; slot <= 4; slot++) {
            Due.is("35: each its own", x.rest(slot, 1000), 100 + slot);
        }
        Due.is("32: SLOT 5", x.lay(5, 3, 1), TwelveShort.BAD);
        Due.is("32: SLOT -1", x.lay(-1, 3, 1), TwelveShort.BAD);
    }

    /** "what it held (0 .. 3)" */
    private static void p32whatItHeld() {
        TwelveShort x = of(FLOATS, 5);
        x.person(1, 2, 3, 4);
        int held = 0;
        for (int thing = 0; thing <= 3; thing++) {
            for (int next = 0; next <= 3; next++) {
                Due.is("32: thing " + thing, x.lay(2, thing, 0), held);
                Due.is("32: thing " + next + " behind " + thing, x.lay(2, next, 0), thing);
                held = next;
                Due.is("33: of thing " + next, x.ask(2, 0), next == 0 ? TwelveShort.NOTHING : next == 1 ? 4 : KIND);
                Due.is("34: of thing " + next, x.item(2, 0), next == 0 ? TwelveShort.NOTHING : next == 2 ? 5 : KIND);
                Due.is("35: of thing " + next, x.rest(2, 7), next == 0 ? TwelveShort.NOTHING : next == 3 ? 0 : KIND);
            }
        }
    }

    /** "0 nothing .. 3 the number k": of these k may be any. */
    private static void p32anyNumber() {
        TwelveShort x = new TwelveShort();
        int[] any = {0, 1, -1, MIN, MAX, NONE, TwelveShort.BAD};
        for (int k : any) {
            Due.is("32: the number " + k, x.lay(0, 3, k), 0);
            Due.is("35: by 1000", x.rest(0, 1000), k % 1000);
            Due.is("32: nothing, k " + k, x.lay(0, 0, k), 3);
            Due.is("35: nothing", x.rest(0, 1000), TwelveShort.NOTHING);
        }
    }

    /** "a PERSON (as it is then, for good)" */
    private static void p32thePersonAsItIsThen() {
        TwelveShort x = new TwelveShort();
        x.keep();
        x.person(3, 10, 20, 50);
        x.set(0, 4, 11);
        x.lay(0, 1, 0);
        x.set(0, 1, 0);
        x.set(0, 2, 0);
        x.set(0, 3, 0);
        x.set(0, 4, 0);
        x.turns(0, 5);
        Due.is("33: WORTH as it was", x.ask(0, 3), 30);
        x.lay(1, 1, 0);
        x.set(0, 1, 77);
        Due.is("33: the DOG's WORTH as it was", x.ask(1, 5), 0);
        Due.is("39: nobody is there then", x.back(), 0);
        Due.is("33: WORTH for good", x.ask(0, 1), 30);
        x.person(0, 1, 1, 1);
        x.sits(1);
        Due.is("33: WORTH for good, another has its number", x.ask(0, 0), 30);
    }

    /** "a SHEET (a row of its own, as it was then)" */
    private static void p32theSheetAsItWasThen() {
        TwelveShort x = of(FLOATS, 1, NONE, 3);
        x.lay(0, 2, 0);
        x.mark(0, 0, 9);
        x.mark(0, 1, 9);
        x.mark(0, 2, NONE);
        Due.is("34: as it was", x.item(0, 0), 1);
        Due.is("34: NO NUMBER as it was", x.item(0, 1), KIND);
        Due.is("34: as it was", x.item(0, 2), 3);
        x.sheet(0, SHORTS, 24);
        Due.is("34: its places as they were", x.item(0, 3), INDEX);
        x.sheet(0, -1, 0);
        Due.is("34: though it is MISSING", x.item(0, 2), 3);
        x.sheet(0, FLOATS, 1);
        x.lay(1, 2, 0);
        x.copy(0, 0, 0, 0, 1);
        x.mark(0, 0, 5);
        x.lay(2, 2, 0);
        Due.is("34: of two SLOTS each its own", x.item(1, 0), 0);
        Due.is("34: of two SLOTS each its own", x.item(2, 0), 5);
        Due.is("34: and the first one, too", x.item(0, 0), 1);
    }

    /** "1 PERSON k, 2 SHEET k" */
    private static void p32theLastPersonAndTheLastSheet() {
        TwelveShort x = new TwelveShort();
        for (int many = 0; many <= 10; many++) {
            Due.is("32: PERSON " + many + " of " + many, x.lay(0, 1, many), TwelveShort.BAD);
            if (many > 0) {
                Due.is("32: the last of " + many, x.lay(0, 1, many - 1), many == 1 ? 0 : 1);
                Due.is("33: its WORTH", x.ask(0, 0), 49 + many);
            }
            x.person(0, 0, 0, 50 + many);
        }
        x.sheet(3, SHORTS, 1);
        x.mark(3, 0, 33);
        Due.is("32: SHEET 3", x.lay(0, 2, 3), 1);
        Due.is("34: of SHEET 3", x.item(0, 0), 33);
        Due.is("32: SHEET 4", x.lay(0, 2, 4), TwelveShort.BAD);
        Due.is("32: SHEET -1", x.lay(0, 2, -1), TwelveShort.BAD);
        Due.is("34: of SHEET 3, still", x.item(0, 0), 33);
        Due.is("32: SHEET 2 is MISSING", x.lay(0, 2, 2), TwelveShort.NOTHING);
        Due.is("34: of SHEET 3, still", x.item(0, 0), 33);
    }

    /** "taken for one of a KIND (0 .. 5)"; "KIND: it is no PERSON, or not of that KIND, nor of one under it" */
    private static void p33takenForOneOfAKind() {
        String[] of = {"0", "01", "02", "013", "024", "05"};
        int[] worth = {50, 58, 79, 29, 86, 30};
        for (int kind = 0; kind < 6; kind++) {
            TwelveShort x = new TwelveShort();
            x.person(kind, 30, 20, 50);
            x.set(0, 4, 8);
            x.lay(4, 1, 0);
            for (int k = 0; k < 6; k++) {
                Due.is("33: one of " + kind + " as " + k, x.ask(4, k), of[kind].indexOf('0' + k) >= 0 ? worth[kind] : KIND);
            }
            Due.is("33: as -1", x.ask(4, -1), TwelveShort.BAD);
            Due.is("33: as 6", x.ask(4, 6), TwelveShort.BAD);
        }
    }

    private static void p33worthAtTheEnds() {
        // KIND, ODDS, STEPS, WIT, TIMES, WORTH
        int[][] due = {{0, 100, 99, 0, 9999, 0}, {0, 0, 0, 99, 0, 99}, {1, 9, 9, 99, 9999, 10098}, {3, 9, 9, 99, 9999, 5049}, {3, 9, 9, 1, 0, 0},
            {2, 9, 0, 50, 7, 99}, {2, 9, 99, 50, 7, 0}, {4, 9, 0, 50, 7, 106}, {4, 9, 99, 50, 7, 7}, {5, 0, 9, 50, 7, 0}, {5, 100, 9, 50, 7, 100}};
        for (int[] d : due) {
            TwelveShort x = new TwelveShort();
            x.person(d[0], d[1], d[2], d[3]);
            x.set(0, 4, d[4]);
            x.lay(0, 1, 0);
            Due.is("33: WORTH of KIND " + d[0], x.ask(0, 0), d[5]);
        }
    }

    /** "A place of the SHEET in a SLOT .. INDEX" */
    private static void p34theFirstAndTheLastPlace() {
        for (int n = 0; n <= 24; n++) {
            int[] row = new int[n];
            for (int i = 0; i < n; i++) {
                row[i] = 10 + i;
            }
            TwelveShort x = of(n % 2, row);
            x.lay(1, 2, 0);
            Due.is("34: place -1 of " + n, x.item(1, -1), INDEX);
            Due.is("34: place 0 of " + n, x.item(1, 0), n == 0 ? INDEX : 10);
            Due.is("34: the last of " + n, x.item(1, n - 1), n == 0 ? INDEX : 9 + n);
            Due.is("34: behind the last of " + n, x.item(1, n), INDEX);
        }
        TwelveShort y = of(SHORTS, 32767, -32768);
        y.lay(0, 2, 0);
        Due.is("34: the greatest short", y.item(0, 0), 32767);
        Due.is("34: the least short", y.item(0, 1), -32768);
    }

    /** "The rest of the number in a SLOT by n." */
    private static void p35restsOfTheEndsOfInt() {
        int[][] due = {{MIN, -1, 0}, {MIN, 1, 0}, {MIN, MIN, 0}, {MIN, MAX, -1}, {MAX, MIN, MAX}, {MAX, MAX, 0}, {MAX, -1, 0}, {MAX, 2, 1},
            {MIN, 2, 0}, {MIN, 10, -8}, {MIN, -10, -8}, {MAX, 10, 7}, {MAX, -10, 7}, {0, MIN, 0}, {0, 1, 0}, {0, -1, 0}, {1, MIN, 1}, {-1, MIN, -1}};
        for (int[] d : due) {
            TwelveShort x = new TwelveShort();
            x.lay(3, 3, d[0]);
            Due.is("35: " + d[0] + " by " + d[1], x.rest(3, d[1]), d[2]);
            Due.is("35: " + d[0] + " by 0", x.rest(3, 0), TwelveShort.NO);
        }
    }

    /** "/ cuts towards 0", and so the rest has the sign of the number. */
    private static void p35restsBelow0() {
        int[][] due = {{7, 3, 1}, {-7, 3, -1}, {7, -3, 1}, {-7, -3, -1}, {6, 3, 0}, {-6, 3, 0}, {2, 3, 2}, {-2, 3, -2}, {-3, 3, 0}, {3, 4, 3}};
        for (int[] d : due) {
            TwelveShort x = new TwelveShort();
            x.lay(0, 3, d[0]);
            Due.is("35: " + d[0] + " by " + d[1], x.rest(0, d[1]), d[2]);
        }
    }
}
