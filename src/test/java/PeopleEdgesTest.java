/** The sentences of the document's section 1 and of promises 1 to 10 that name a bound: a test of its own for each. */
public final class PeopleEdgesTest {
    private static final int MIN = Integer.MIN_VALUE, MAX = Integer.MAX_VALUE;
    private static final int COMES = 5, WALKS = 6, BRINGS = 7, WORTH = 8;

    public static void main(String[] args) {
        p01allAsAtFirst();
        p01noObjectKnowsOfAnother();
        p02peopleTenAtMostNumberedFrom0();
        p02oddsFrom0To100();
        p02stepsFrom0To99();
        p02witFrom0To99();
        p02kindsFrom0To5();
        p02times0AtFirst();
        p03plainIsOddsWithoutAText();
        p03plainIsHeldWithin0And100();
        p03comesOfAPoetIsHalfAndCut();
        p03comesOfAThief();
        p03comesOfANeighbourAbove60Steps();
        p03comesOfALamplighter100AtMost();
        p03comesOfADogIs0();
        p03walksOfAThief0AtLeast();
        p03walksOfANeighbour0AtLeast();
        p03walksOfALamplighterIsCut();
        p03walksOfTheOthers();
        p03bringsATenthAndCut();
        p03bringsOfANeighbour0AtLeast();
        p03worth();
        p04everyKindForEveryOther();
        p05turnsToTheFirstAndTheLastKind();
        p06setUpToTheBounds();
        p06timesUpTo9999();
        p07never0To10();
        p07fog0To100();
        p08dealOneAndTen();
        p08asManyAsThereIsRoomFor();
        p08drawsUpToTheirLast();
        p08drawsOfNegativeZ();
        p09seedsAtTheEndsOfInt();
        p10fewestFor0IsNobody();
        p10fewestJustSoMuch();
        p10fewestOfAll();
        p10fewestOfSeveralTheLeast();
        Due.finish();
    }

    private static TwelveShort ofOne(int kind, int odds, int steps, int wit) {
        TwelveShort x = new TwelveShort();
        x.person(kind, odds, steps, wit);
        return x;
    }

    /** "As told; nobody." */
    private static void p01allAsAtFirst() {
        TwelveShort x = new TwelveShort();
        Due.is("1: PEOPLE", x.count(0), 0);
        Due.is("1: THE EVENING 0 at first", x.count(1), 0);
        Due.is("1: NEVER 3 at first", x.count(2), 3);
        Due.is("1: FOG 0 at first", x.count(3), 0);
        Due.is("1: no TEXTS", x.count(4), 0);
        Due.is("1: no number waits", x.count(5), 0);
        Due.is("1: THE TAPE is empty", x.count(6), 0);
        Due.is("1: z 1 at first", x.count(7), 1);
        Due.is("1: TALK 0 at first", x.house(0), 0);
        Due.is("1: SENT 0 at first", x.house(1), 0);
        Due.is("1: FAILED 0 at first", x.house(2), 0);
        Due.is("1: SAT none at first", x.house(3), 0);
        Due.is("1: ODDS of all", x.house(4), 0);
        Due.is("1: WIT of all", x.house(5), 0);
        Due.is("1: nobody is NEAREST", x.house(6), TwelveShort.NONE);
        for (int key = 0; key < 3; key++) {
            Due.is("1: no TEXT counts", x.why(key), TwelveShort.NONE);
        }
        for (int sheet = 0; sheet < 4; sheet++) {
            Due.is("1: SHEETS are MISSING at first", x.reads(sheet), TwelveShort.NOTHING);
        }
        for (int slot = 0; slot < 5; slot++) {
            Due.is("1: SLOTS hold nothing at first", x.lay(slot, 0, 0), 0);
        }
        Due.is("1: no IMAGE", x.check(1), TwelveShort.NO);
        Due.is("1: no IMAGE", x.back(), TwelveShort.NO);
        Due.is("1: fee without a TEXT", x.fee(), 0);
    }

    private static void p01noObjectKnowsOfAnother() {
        TwelveShort full = Scene.BRIM.made();
        p01allAsAtFirst();
        TwelveShort x = Scene.BUSY.made();
        Due.is("1: PEOPLE of one", full.count(0), 10);
        Due.is("1: PEOPLE of the other", x.count(0), 6);
        Due.is("1: TEXTS of one", full.textTold(13, 0), 2);
        Due.is("1: TEXTS of the other", x.textTold(2, 0), 2);
    }

    /** "PEOPLE, 10 at most, numbered from 0" */
    private static void p02peopleTenAtMostNumberedFrom0() {
        TwelveShort x = new TwelveShort();
        for (int i = 0; i < 10; i++) {
            Due.is("2: the number of the next", x.person(i % 6, 10 * i, 9 * i, 99 - i), i);
            Due.is("2: how many", x.count(0), i + 1);
        }
        Due.is("2: the eleventh", x.person(0, 1, 1, 1), TwelveShort.FULL);
        Due.is("2: how many", x.count(0), 10);
        for (int i = 0; i < 10; i++) {
            Due.is("2: KIND of " + i, x.told(i, 0), i % 6);
            Due.is("2: ODDS of " + i, x.told(i, 1), 10 * i);
            Due.is("2: STEPS of " + i, x.told(i, 2), 9 * i);
            Due.is("2: WIT of " + i, x.told(i, 3), 99 - i);
        }
        TwelveShort dealt = new TwelveShort();
        dealt.deal(10);
        Due.is("2: the eleventh behind ten dealt", dealt.person(0, 1, 1, 1), TwelveShort.FULL);
    }

    /** "ODDS 0 .. 100" */
    private static void p02oddsFrom0To100() {
        for (int kind = 0; kind < 6; kind++) {
            Due.is("2: ODDS 0", ofOne(kind, 0, 1, 1).told(0, 1), 0);
            Due.is("2: ODDS 100", ofOne(kind, 100, 1, 1).told(0, 1), 100);
            Due.is("2: ODDS -1", new TwelveShort().person(kind, -1, 1, 1), TwelveShort.BAD);
            Due.is("2: ODDS 101", new TwelveShort().person(kind, 101, 1, 1), TwelveShort.BAD);
        }
    }

    /** "STEPS 0 .. 99 (from the door)" */
    private static void p02stepsFrom0To99() {
        for (int kind = 0; kind < 6; kind++) {
            Due.is("2: STEPS 0", ofOne(kind, 1, 0, 1).told(0, 2), 0);
            Due.is("2: STEPS 99", ofOne(kind, 1, 99, 1).told(0, 2), 99);
            Due.is("2: STEPS -1", new TwelveShort().person(kind, 1, -1, 1), TwelveShort.BAD);
            Due.is("2: STEPS 100", new TwelveShort().person(kind, 1, 100, 1), TwelveShort.BAD);
        }
    }

    /** "WIT 0 .. 99" */
    private static void p02witFrom0To99() {
        for (int kind = 0; kind < 6; kind++) {
            Due.is("2: WIT 0", ofOne(kind, 1, 1, 0).told(0, 3), 0);
            Due.is("2: WIT 99", ofOne(kind, 1, 1, 99).told(0, 3), 99);
            Due.is("2: WIT -1", new TwelveShort().person(kind, 1, 1, -1), TwelveShort.BAD);
            Due.is("2: WIT 100", new TwelveShort().person(kind, 1, 1, 100), TwelveShort.BAD);
        }
    }

    /** "KINDS: 0 PERSON; 1 .. 5" */
    private static void p02kindsFrom0To5() {
        Due.is("2: KIND 0", ofOne(0, 1, 1, 1).told(0, 0), 0);
        Due.is("2: KIND 5", ofOne(5, 1, 1, 1).told(0, 0), 5);
        Due.is("2: KIND -1", new TwelveShort().person(-1, 1, 1, 1), TwelveShort.BAD);
        Due.is("2: KIND 6", new TwelveShort().person(6, 1, 1, 1), TwelveShort.BAD);
    }

    /** "TIMES (how often one sat; 0 at first ..)" */
    private static void p02times0AtFirst() {
        TwelveShort x = new TwelveShort();
        x.keep();
        x.person(0, 1, 1, 1);
        Due.is("2: TIMES at first", x.told(0, 4), 0);
        x.set(0, 4, 9999);
        x.back();
        x.person(0, 1, 1, 1);
        Due.is("2: TIMES at first, in another's place", x.told(0, 4), 0);
        x.set(0, 4, 9999);
        x.back();
        x.deal(1);
        Due.is("8: TIMES at first of one that is drawn", x.told(0, 4), 0);
    }

    /** "(without a TEXT: ODDS)" */
    private static void p03plainIsOddsWithoutAText() {
        for (int odds = 0; odds <= 100; odds += 50) {
            TwelveShort x = ofOne(0, odds, 99, 0);
            Due.is("3: COMES of a PERSON", x.told(0, COMES), odds);
            Due.text(x, "fee 7");
            Due.text(x, "fine 7");
            Due.is("3: COMES of a PERSON, with TEXTS of other KEYS", x.told(0, COMES), odds);
        }
    }

    /** "PLAIN ask: what ask gives, held within 0 and 100" */
    private static void p03plainIsHeldWithin0And100() {
        String[] laws = {"0", "1", "99", "100", "101", "9999", "0-1", "0-9999", "2*8192*4096*32", "2*8192*4096*32-1"};
        int[] plain = {0, 1, 99, 100, 100, 100, 0, 0, 0, 100};
        for (int i = 0; i < laws.length; i++) {
            TwelveShort x = new TwelveShort();
            for (int kind = 0; kind < 6; kind++) {
                x.person(kind, 37, 60, 37);
            }
            Due.text(x, "ask " + laws[i]);
            int[] due = {plain[i], plain[i] / 2, plain[i], plain[i] / 2 + 10, plain[i], 0};
            for (int kind = 0; kind < 6; kind++) {
                Due.is("3: COMES of KIND " + kind + ", ask " + laws[i], x.told(kind, COMES), due[kind]);
            }
        }
    }

    private static void eachOdds(int kind, int[][] due) {
        for (int[] d : due) {
            Due.is("3: COMES of KIND " + kind + ", ODDS " + d[0], ofOne(kind, d[0], 60, 50).told(0, COMES), d[1]);
        }
    }

    /** "POET: half (cut) of as PERSON" */
    private static void p03comesOfAPoetIsHalfAndCut() {
        eachOdds(1, new int[][] {{0, 0}, {1, 0}, {2, 1}, {3, 1}, {98, 49}, {99, 49}, {100, 50}});
    }

    /** "THIEF: as POET, and 10 (100 at most)": 60 is the most that it can be. */
    private static void p03comesOfAThief() {
        eachOdds(3, new int[][] {{0, 10}, {1, 10}, {2, 11}, {3, 11}, {99, 59}, {100, 60}});
    }

    /** "NEIGHBOUR: as PERSON, but 0, if STEPS are above 60" */
    private static void p03comesOfANeighbourAbove60Steps() {
        int[][] due = {{0, 77}, {59, 77}, {60, 77}, {61, 0}, {99, 0}};
        for (int[] d : due) {
            Due.is("3: COMES of a NEIGHBOUR, STEPS " + d[0], ofOne(2, 77, d[0], 5).told(0, COMES), d[1]);
            Due.is("3: COMES of a LAMPLIGHTER, STEPS " + d[0], ofOne(4, 77, d[0], 5).told(0, COMES), d[1]);
            Due.is("3: COMES of a PERSON, STEPS " + d[0], ofOne(0, 77, d[0], 5).told(0, COMES), 77);
        }
    }

    /** "LAMPLIGHTER: as NEIGHBOUR, and how many SAT (100 at most)" */
    private static void p03comesOfALamplighter100AtMost() {
        TwelveShort x = new TwelveShort();
        for (int i = 0; i < 10; i++) {
            x.person(4, 50, 60, 0);
        }
        x.rule(0, 10);
        Due.is("3: none SAT", x.told(0, COMES), 50);
        int[] sat = {0, 1, 9, 10};
        for (int many : sat) {
            x.sits((1 << many) - 1);
            x.set(0, 2, 60);
            int[] odds = {0, 99 - many, 100 - many, Math.min(101 - many, 100), 100};
            int[] due = {many, 99, 100, 100, 100};
            for (int i = 0; i < odds.length; i++) {
                x.set(0, 1, odds[i]);
                Due.is("3: ODDS " + odds[i] + ", SAT " + many, x.told(0, COMES), due[i]);
            }
            x.set(0, 2, 61);
            Due.is("3: STEPS 61, SAT " + many, x.told(0, COMES), many);
        }
    }

    /** "DOG: 0" */
    private static void p03comesOfADogIs0() {
        TwelveShort x = ofOne(5, 100, 0, 99);
        Due.is("3: COMES of a DOG", x.told(0, COMES), 0);
        Due.text(x, "ask 100");
        Due.is("3: COMES of a DOG by ask", x.told(0, COMES), 0);
        x.sits(1);
        Due.is("3: COMES of a DOG that SAT", x.told(0, COMES), 0);
    }

    private static void eachSteps(int kind, int[][] due) {
        for (int[] d : due) {
            Due.is("3: WALKS of KIND " + kind + ", STEPS " + d[0], ofOne(kind, 50, d[0], 50).told(0, WALKS), d[1]);
        }
    }

    /** "THIEF: as POET, less 5 (0 at least)" */
    private static void p03walksOfAThief0AtLeast() {
        eachSteps(3, new int[][] {{0, 0}, {1, 0}, {2, 0}, {3, 1}, {4, 3}, {99, 193}});
    }

    /** "NEIGHBOUR: as PERSON, less 10 (0 at least)" */
    private static void p03walksOfANeighbour0AtLeast() {
        eachSteps(2, new int[][] {{0, 0}, {9, 0}, {10, 0}, {11, 1}, {12, 2}, {99, 89}});
    }

    /** "LAMPLIGHTER: half (cut) of as NEIGHBOUR" */
    private static void p03walksOfALamplighterIsCut() {
        eachSteps(4, new int[][] {{0, 0}, {9, 0}, {10, 0}, {11, 0}, {12, 1}, {13, 1}, {14, 2}, {99, 44}});
    }

    /** "PERSON: STEPS. POET: twice as PERSON. .. DOG: 99." */
    private static void p03walksOfTheOthers() {
        eachSteps(0, new int[][] {{0, 0}, {1, 1}, {99, 99}});
        eachSteps(1, new int[][] {{0, 0}, {1, 2}, {99, 198}});
        eachSteps(5, new int[][] {{0, 99}, {1, 99}, {99, 99}});
    }

    private static void eachWit(int kind, int[][] due) {
        for (int[] d : due) {
            Due.is("3: BRINGS of KIND " + kind + ", WIT " + d[0], ofOne(kind, 50, 50, d[0]).told(0, BRINGS), d[1]);
        }
    }

    /** "PERSON: a tenth (cut) of WIT. POET: as PERSON, and 5. THIEF: twice as POET. .. DOG: 0." */
    private static void p03bringsATenthAndCut() {
        eachWit(0, new int[][] {{0, 0}, {9, 0}, {10, 1}, {19, 1}, {20, 2}, {89, 8}, {90, 9}, {99, 9}});
        eachWit(1, new int[][] {{0, 5}, {9, 5}, {10, 6}, {99, 14}});
        eachWit(3, new int[][] {{0, 10}, {9, 10}, {10, 12}, {99, 28}});
        eachWit(5, new int[][] {{0, 0}, {99, 0}});
    }

    /** "NEIGHBOUR: as PERSON, less 1 (0 at least). LAMPLIGHTER: as NEIGHBOUR, and 2." */
    private static void p03bringsOfANeighbour0AtLeast() {
        eachWit(2, new int[][] {{0, 0}, {9, 0}, {10, 0}, {19, 0}, {20, 1}, {99, 8}});
        eachWit(4, new int[][] {{0, 2}, {9, 2}, {10, 2}, {19, 2}, {20, 3}, {99, 10}});
    }

    /** "WORTH: PERSON: WIT. POET: as PERSON, and TIMES. THIEF: half (cut) of as POET. .." at their ends. */
    private static void p03worth() {
        int[][] due = {
            // KIND, ODDS, STEPS, WIT, TIMES, WORTH
            {0, 100, 99, 0, 9999, 0}, {0, 0, 0, 99, 0, 99}, {1, 9, 9, 0, 0, 0}, {1, 9, 9, 99, 9999, 10098}, {1, 9, 9, 0, 9999, 9999},
            {3, 9, 9, 0, 0, 0}, {3, 9, 9, 1, 0, 0}, {3, 9, 9, 0, 1, 0}, {3, 9, 9, 1, 1, 1}, {3, 9, 9, 99, 9999, 5049},
            {3, 9, 9, 98, 9999, 5048}, {2, 9, 0, 50, 7, 99}, {2, 9, 99, 50, 7, 0}, {2, 9, 61, 50, 7, 38}, {4, 9, 0, 50, 7, 106},
            {4, 9, 99, 50, 7, 7}, {5, 0, 9, 50, 7, 0}, {5, 100, 9, 50, 7, 100},
        };
        for (int[] d : due) {
            TwelveShort x = ofOne(d[0], d[1], d[2], d[3]);
            x.set(0, 4, d[4]);
            Due.is("3: WORTH of KIND " + d[0] + ", " + d[1] + " " + d[2] + " " + d[3] + " " + d[4], x.told(0, WORTH), d[5]);
        }
    }

    /** "KIND: it is not of that KIND, nor of one under it." */
    private static void p04everyKindForEveryOther() {
        String[] of = {"0", "01", "02", "013", "024", "05"};
        for (int kind = 0; kind < 6; kind++) {
            for (int wit = 0; wit <= 99; wit += 99) {
                TwelveShort x = ofOne(kind, 1, 2, wit);
                for (int k = 0; k < 6; k++) {
                    Due.is("4: one of " + kind + " as " + k, x.as(0, k), of[kind].indexOf('0' + k) >= 0 ? wit : TwelveShort.KIND);
                }
            }
        }
        TwelveShort ten = new TwelveShort();
        ten.deal(10);
        Due.is("4: the last one", ten.as(9, 0), ten.told(9, 3));
        Due.is("4: behind the last one", ten.as(10, 0), TwelveShort.BAD);
    }

    /** "One is of another KIND from now on: what it was." */
    private static void p05turnsToTheFirstAndTheLastKind() {
        TwelveShort x = ofOne(3, 40, 50, 60);
        x.set(0, 4, 70);
        Due.is("5: to 0", x.turns(0, 0), 3);
        Due.is("5: to 5", x.turns(0, 5), 0);
        Due.is("5: to 6", x.turns(0, 6), TwelveShort.BAD);
        Due.is("5: to -1", x.turns(0, -1), TwelveShort.BAD);
        Due.is("5: to 0 again", x.turns(0, 0), 5);
        int[] rest = {0, 40, 50, 60, 70};
        for (int what = 0; what < 5; what++) {
            Due.is("5: all else stays", x.told(0, what), rest[what]);
        }
        TwelveShort ten = new TwelveShort();
        ten.deal(10);
        int was = ten.told(9, 0);
        Due.is("5: the last one", ten.turns(9, 1), was);
        Due.is("5: behind the last one", ten.turns(10, 1), TwelveShort.BAD);
    }

    /** "ODDS (what 1), STEPS (2), WIT (3), TIMES (4) of one becomes v" */
    private static void p06setUpToTheBounds() {
        int[] most = {0, 100, 99, 99, 9999};
        for (int what = 1; what <= 4; what++) {
            TwelveShort x = ofOne(0, 50, 50, 50);
            x.person(0, 51, 51, 51);
            int was = what == 4 ? 0 : 50;
            Due.is("6: " + what + " to 0", x.set(0, what, 0), was);
            Due.is("6: " + what + " to the most", x.set(0, what, most[what]), 0);
            Due.is("6: " + what + " beyond the most", x.set(0, what, most[what] + 1), TwelveShort.BAD);
            Due.is("6: " + what + " below 0", x.set(0, what, -1), TwelveShort.BAD);
            for (int other = 1; other <= 4; other++) {
                int due = other == what ? most[what] : other == 4 ? 0 : 50;
                Due.is("6: " + other + " behind set of " + what, x.told(0, other), due);
                Due.is("6: " + other + " of the next", x.told(1, other), other == 4 ? 0 : 51);
            }
        }
    }

    /** "TIMES (.. 9999 at most)" */
    private static void p06timesUpTo9999() {
        TwelveShort x = ofOne(1, 0, 0, 0);
        Due.is("6: TIMES 9998", x.set(0, 4, 9998), 0);
        Due.is("6: TIMES 9999", x.set(0, 4, 9999), 9998);
        Due.is("6: TIMES 10000", x.set(0, 4, 10000), TwelveShort.BAD);
        Due.is("6: TIMES", x.told(0, 4), 9999);
    }

    /** "NEVER 0 .. 10" */
    private static void p07never0To10() {
        TwelveShort x = new TwelveShort();
        int was = 3;
        for (int v = 0; v <= 10; v++) {
            Due.is("7: NEVER " + v, x.rule(0, v), was);
            was = v;
        }
        Due.is("7: NEVER 11", x.rule(0, 11), TwelveShort.BAD);
        Due.is("7: NEVER -1", x.rule(0, -1), TwelveShort.BAD);
        Due.is("7: NEVER then", x.count(2), 10);
        Due.is("7: FOG stays", x.count(3), 0);
    }

    /** "FOG 0 .. 100" */
    private static void p07fog0To100() {
        TwelveShort x = new TwelveShort();
        Due.is("7: FOG 99", x.rule(1, 99), 0);
        Due.is("7: FOG 100", x.rule(1, 100), 99);
        Due.is("7: FOG 101", x.rule(1, 101), TwelveShort.BAD);
        Due.is("7: FOG -1", x.rule(1, -1), TwelveShort.BAD);
        Due.is("7: FOG then", x.count(3), 100);
        Due.is("7: FOG 0", x.rule(1, 0), 100);
        Due.is("7: FOG 1", x.rule(1, 1), 0);
        Due.is("7: NEVER stays", x.count(2), 3);
    }

    /** "n (1 .. 10) of them" */
    private static void p08dealOneAndTen() {
        TwelveShort x = new TwelveShort();
        Due.is("8: none", x.deal(0), TwelveShort.BAD);
        Due.is("8: one", x.deal(1), 1);
        Due.is("8: one came", x.count(0), 1);
        TwelveShort y = new TwelveShort();
        Due.is("8: eleven", y.deal(11), TwelveShort.BAD);
        Due.is("8: nobody came", y.count(0), 0);
        Due.is("8: ten", y.deal(10), 10);
        Due.is("8: ten came", y.count(0), 10);
    }

    /** "as many as there is room for (no draws for others): how many came" */
    private static void p08asManyAsThereIsRoomFor() {
        for (int there = 0; there <= 10; there++) {
            for (int n = 1; n <= 10; n++) {
                TwelveShort x = new TwelveShort();
                for (int i = 0; i < there; i++) {
                    x.person(0, 1, 1, 1);
                }
                int come = Math.min(n, 10 - there);
                Draws d = new Draws(1);
                for (int i = 0; i < 4 * come; i++) {
                    d.rest(1);
                }
                Due.is("8: deal(" + n + ") where " + there + " are", x.deal(n), come);
                Due.is("8: PEOPLE then", x.count(0), there + come);
                Due.is("8: z then", x.count(7), d.z());
            }
        }
    }

    /** "KIND the rest of a draw by 6, ODDS that of one more by 101, STEPS .. by 100, WIT .. by 100": the last of each. */
    private static void p08drawsUpToTheirLast() {
        int[] by = {6, 101, 100, 100};
        for (int what = 0; what < 4; what++) {
            for (int end = 0; end <= 1; end++) {
                int w = what;
                int due = end * (by[what] - 1);
                TwelveShort x = new TwelveShort();
                x.seed(Draws.seed(s -> Draws.nth(s, w + 1, by[w]) == due));
                x.deal(1);
                Due.is("8: drawn, what " + what, x.told(0, what), due);
            }
        }
    }

    /** "z becomes z * 1103515245 + 12345 (an int); it gives z >>> 8" */
    private static void p08drawsOfNegativeZ() {
        int[] seeds = {MIN, MIN + 1, -2, -1, 0, 1, 2, MAX - 1, MAX};
        int[] by = {6, 101, 100, 100};
        for (int seed : seeds) {
            TwelveShort x = new TwelveShort();
            x.seed(seed);
            x.deal(10);
            Draws d = new Draws(seed);
            for (int p = 0; p < 10; p++) {
                for (int what = 0; what < 4; what++) {
                    Due.is("8: seed " + seed + ", told(" + p + ", " + what + ")", x.told(p, what), d.rest(by[what]));
                }
            }
            Due.is("8: seed " + seed + ", z", x.count(7), d.z());
        }
    }

    /** "z becomes v: what it was." */
    private static void p09seedsAtTheEndsOfInt() {
        TwelveShort x = new TwelveShort();
        int[] seeds = {MIN, MAX, 0, -1, 1, TwelveShort.BAD, TwelveShort.NONE};
        int was = 1;
        for (int seed : seeds) {
            Due.is("9: seed(" + seed + ")", x.seed(seed), was);
            Due.is("9: z", x.count(7), seed);
            was = seed;
        }
    }

    /** "FEWEST for v (0 .. 999)" */
    private static void p10fewestFor0IsNobody() {
        for (Scene scene : Scene.values()) {
            Due.is("10: " + scene + ", the set for 0", scene.made().fewest(0, 0), 0);
            Due.is("10: " + scene + ", how many for 0", scene.made().fewest(0, 1), 0);
            Due.is("10: " + scene + ", for -1", scene.made().fewest(-1, 0), TwelveShort.BAD);
            Due.is("10: " + scene + ", for 999", scene.made().fewest(999, 0), TwelveShort.NONE);
            Due.is("10: " + scene + ", for 1000", scene.made().fewest(1000, 0), TwelveShort.BAD);
        }
        Due.is("10: nobody brings 1", new TwelveShort().fewest(1, 1), TwelveShort.NONE);
        Due.is("10: one that brings 0 does not bring 1", ofOne(0, 0, 0, 9).fewest(1, 0), TwelveShort.NONE);
        Due.is("10: one that brings 1", ofOne(0, 0, 0, 10).fewest(1, 0), 1);
    }

    /** "that BRING v, or more, together" */
    private static void p10fewestJustSoMuch() {
        TwelveShort x = ofOne(0, 0, 0, 40);
        x.person(0, 0, 0, 70);
        x.person(5, 0, 0, 99);
        int[][] due = {{3, 1}, {4, 1}, {5, 2}, {6, 2}, {7, 2}, {8, 3}, {10, 3}, {11, 3}};
        for (int[] d : due) {
            Due.is("10: for " + d[0], x.fewest(d[0], 0), d[1]);
            Due.is("10: for " + d[0] + ", how many", x.fewest(d[0], 1), Integer.bitCount(d[1]));
        }
        Due.is("10: for one more than all bring", x.fewest(12, 0), TwelveShort.NONE);
        Due.is("10: for one more than all bring, how many", x.fewest(12, 1), TwelveShort.NONE);
    }

    /** "NONE: not all bring so much": ten THIEVES bring 280, which is the most. */
    private static void p10fewestOfAll() {
        TwelveShort x = new TwelveShort();
        for (int i = 0; i < 10; i++) {
            x.person(3, 0, 0, 99);
        }
        Due.is("10: 280", x.fewest(280, 0), 1023);
        Due.is("10: 280, how many", x.fewest(280, 1), 10);
        Due.is("10: 281", x.fewest(281, 0), TwelveShort.NONE);
        Due.is("10: 253, how many", x.fewest(253, 1), 10);
        Due.is("10: 252, how many", x.fewest(252, 1), 9);
    }

    /** "of several the least" */
    private static void p10fewestOfSeveralTheLeast() {
        TwelveShort x = new TwelveShort();
        int[] wits = {30, 50, 50, 30, 60, 20};
        for (int wit : wits) {
            x.person(0, 0, 0, wit);
        }
        Due.is("10: for 5, the first of two", x.fewest(5, 0), 0b000010);
        Due.is("10: for 3, the first of four", x.fewest(3, 0), 0b000001);
        Due.is("10: for 10, 1 and 2 ahead of 1 and 4", x.fewest(10, 0), 0b000110);
        Due.is("10: for 8, 0 and 1 ahead of all", x.fewest(8, 0), 0b000011);
        Due.is("10: for 9, 1 and 2 (6) ahead of 0 and 4 (17)", x.fewest(9, 0), 0b000110);
        Due.is("10: for 13, 0, 1 and 2 ahead of all", x.fewest(13, 0), 0b000111);
    }
}
