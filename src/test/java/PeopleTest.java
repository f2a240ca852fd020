/** Promises 1 to 10. */
public final class PeopleTest {
    private static final int MIN = Integer.MIN_VALUE, MAX = Integer.MAX_VALUE;

    public static void main(String[] args) {
        newObject();
        person();
        told();
        edgesOfTold();
        as();
        turns();
        set();
        rule();
        deal();
        seed();
        fewest();
        Due.finish();
    }

    private static void newObject() {
        TwelveShort x = new TwelveShort();
        int[] counts = {0, 0, 3, 0, 0, 0, 0, 1};
        for (int what = 0; what < counts.length; what++) {
            Due.is("1: count(" + what + ")", x.count(what), counts[what]);
        }
        for (int what = 0; what < 6; what++) {
            Due.is("1: house(" + what + ")", x.house(what), 0);
        }
        Due.is("1: told(0, 0)", x.told(0, 0), TwelveShort.BAD);
        for (int i = 0; i < 4; i++) {
            Due.is("1: pour(" + i + ")", x.pour(i), TwelveShort.NOTHING);
        }
        for (int i = 0; i < 5; i++) {
            Due.is("1: rest(" + i + ", 1)", x.rest(i, 1), TwelveShort.NOTHING);
        }
        for (int key = 0; key < 3; key++) {
            Due.is("1: why(" + key + ")", x.why(key), TwelveShort.NONE);
        }
        Due.is("1: back()", x.back(), TwelveShort.NO);
    }

    private static void person() {
        TwelveShort x = new TwelveShort();
        int[][] bad = {{-1, 0, 0, 0}, {6, 0, 0, 0}, {MIN, 0, 0, 0}, {0, -1, 0, 0}, {0, 101, 0, 0}, {0, 0, -1, 0},
            {0, 0, 100, 0}, {0, 0, 0, -1}, {0, 0, 0, 100}, {MAX, MAX, MAX, MAX}};
        for (int[] b : bad) {
            Due.is("2: person of wrong numbers", x.person(b[0], b[1], b[2], b[3]), TwelveShort.BAD);
        }
        Due.is("2: nobody came", x.count(0), 0);
        Due.is("2: person(0, 0, 0, 0)", x.person(0, 0, 0, 0), 0);
        Due.is("2: person(5, 100, 99, 99)", x.person(5, 100, 99, 99), 1);
        for (int i = 2; i < 10; i++) {
            Due.is("2: person " + i, x.person(i % 6, i, i, i), i);
        }
        Due.is("2: the eleventh", x.person(0, 0, 0, 0), TwelveShort.FULL);
        Due.is("2: the eleventh, bad", x.person(6, 0, 0, 0), TwelveShort.BAD);
        Due.is("2: count(0)", x.count(0), 10);
        Due.is("2: told(9, 0)", x.told(9, 0), 3);
    }

    private static void told() {
        TwelveShort x = new TwelveShort();
        int[][] due = {
            {0, 51, 30, 47, 0, 51, 30, 4, 47},
            {1, 51, 30, 47, 0, 25, 60, 9, 47},
            {2, 51, 30, 47, 0, 51, 20, 3, 69},
            {3, 51, 30, 47, 0, 35, 55, 18, 23},
            {4, 51, 30, 47, 0, 51, 10, 5, 76},
            {5, 51, 30, 47, 0, 0, 99, 0, 51},
        };
        for (int kind = 0; kind < 6; kind++) {
            x.person(kind, 51, 30, 47);
            for (int what = 0; what < 9; what++) {
                Due.is("3: told(" + kind + ", " + what + ")", x.told(kind, what), due[kind][what]);
            }
        }
        int[] wrong = {-1, 9, MIN, MAX};
        for (int w : wrong) {
            Due.is("3: told(0, " + w + ")", x.told(0, w), TwelveShort.BAD);
            Due.is("3: told(" + w + ", 0)", x.told(w, 0), TwelveShort.BAD);
        }
        Due.is("3: told(6, 0)", x.told(6, 0), TwelveShort.BAD);
    }

    private static void edgesOfTold() {
        TwelveShort x = new TwelveShort();
        x.person(2, 80, 60, 5);
        x.person(2, 80, 61, 5);
        x.person(4, 100, 3, 9);
        x.person(4, 80, 61, 99);
        x.person(3, 100, 2, 99);
        x.person(1, 1, 99, 99);
        Due.is("3: NEIGHBOUR of 60 STEPS comes", x.told(0, 5), 80);
        Due.is("3: NEIGHBOUR of 61 STEPS comes", x.told(1, 5), 0);
        Due.is("3: NEIGHBOUR of WIT 5 brings", x.told(0, 7), 0);
        Due.is("3: LAMPLIGHTER of WIT 9 brings", x.told(2, 7), 2);
        Due.is("3: LAMPLIGHTER of 3 STEPS walks", x.told(2, 6), 0);
        x.set(0, 2, 3);
        Due.is("3: NEIGHBOUR of 3 STEPS walks", x.told(0, 6), 0);
        x.set(0, 2, 60);
        Due.is("3: LAMPLIGHTER of 61 STEPS walks", x.told(3, 6), 25);
        Due.is("3: THIEF of 2 STEPS walks", x.told(4, 6), 0);
        Due.is("3: THIEF of ODDS 100 comes", x.told(4, 5), 60);
        Due.is("3: THIEF of WIT 99 brings", x.told(4, 7), 28);
        Due.is("3: POET of 99 STEPS walks", x.told(5, 6), 198);
        Due.is("3: POET of ODDS 1 comes", x.told(5, 5), 0);
        Due.is("3: sits", x.sits(0b111100), 2 + 10 + 28 + 14);
        Due.is("3: LAMPLIGHTER of ODDS 100 comes, 4 SAT", x.told(2, 5), 100);
        Due.is("3: LAMPLIGHTER of 61 STEPS comes, 4 SAT", x.told(3, 5), 4);
        x.set(5, 4, 9999);
        x.set(4, 4, 9998);
        Due.is("3: POET's WORTH", x.told(5, 8), 10098);
        Due.is("3: THIEF's WORTH", x.told(4, 8), (99 + 9998) / 2);
        x.set(3, 2, 99);
        Due.is("3: LAMPLIGHTER's WORTH", x.told(3, 8), 7);
    }

    private static void as() {
        TwelveShort x = new TwelveShort();
        // For each KIND those under which it stands, itself too, by bits.
        int[] of = {0b000001, 0b000011, 0b000101, 0b001011, 0b010101, 0b100001};
        for (int kind = 0; kind < 6; kind++) {
            x.person(kind, 1, 2, 30 + kind);
            for (int k = 0; k < 6; k++) {
                int want = (of[kind] >> k & 1) == 1 ? 30 + kind : TwelveShort.KIND;
                Due.is("4: as(" + kind + ", " + k + ")", x.as(kind, k), want);
            }
        }
        Due.is("4: as(6, 0)", x.as(6, 0), TwelveShort.BAD);
        Due.is("4: as(-1, 0)", x.as(-1, 0), TwelveShort.BAD);
        Due.is("4: as(0, 6)", x.as(0, 6), TwelveShort.BAD);
        Due.is("4: as(0, -1)", x.as(0, -1), TwelveShort.BAD);
    }

    private static void turns() {
        TwelveShort x = new TwelveShort();
        x.person(2, 50, 40, 33);
        Due.is("5: turns(0, 5)", x.turns(0, 5), 2);
        Due.is("5: turns(0, 3)", x.turns(0, 3), 5);
        Due.is("5: turns(0, 3) again", x.turns(0, 3), 3);
        Due.is("5: told(0, 6)", x.told(0, 6), 75);
        Due.is("5: turns(0, 6)", x.turns(0, 6), TwelveShort.BAD);
        Due.is("5: turns(0, -1)", x.turns(0, -1), TwelveShort.BAD);
        Due.is("5: turns(1, 0)", x.turns(1, 0), TwelveShort.BAD);
        Due.is("5: turns(-1, 0)", x.turns(-1, 0), TwelveShort.BAD);
        Due.is("5: told(0, 0)", x.told(0, 0), 3);
    }

    private static void set() {
        TwelveShort x = new TwelveShort();
        x.person(0, 10, 20, 30);
        int[] first = {0, 10, 20, 30, 0};
        int[] most = {0, 100, 99, 99, 9999};
        for (int what = 1; what <= 4; what++) {
            Due.is("6: set(0, " + what + ", most)", x.set(0, what, most[what]), first[what]);
            Due.is("6: set(0, " + what + ", -1)", x.set(0, what, -1), TwelveShort.BAD);
            Due.is("6: set(0, " + what + ", above)", x.set(0, what, most[what] + 1), TwelveShort.BAD);
            Due.is("6: told(0, " + what + ")", x.told(0, what), most[what]);
            Due.is("6: set(0, " + what + ", 0)", x.set(0, what, 0), most[what]);
            Due.is("6: told(0, " + what + ") then", x.told(0, what), 0);
        }
        Due.is("6: set(0, 0, 1)", x.set(0, 0, 1), TwelveShort.BAD);
        Due.is("6: set(0, 5, 1)", x.set(0, 5, 1), TwelveShort.BAD);
        Due.is("6: set(1, 1, 1)", x.set(1, 1, 1), TwelveShort.BAD);
        Due.is("6: set(-1, 1, 1)", x.set(-1, 1, 1), TwelveShort.BAD);
    }

    private static void rule() {
        TwelveShort x = new TwelveShort();
        Due.is("7: rule(0, 10)", x.rule(0, 10), 3);
        Due.is("7: rule(0, 0)", x.rule(0, 0), 10);
        Due.is("7: rule(0, 11)", x.rule(0, 11), TwelveShort.BAD);
        Due.is("7: rule(0, -1)", x.rule(0, -1), TwelveShort.BAD);
        Due.is("7: rule(1, 100)", x.rule(1, 100), 0);
        Due.is("7: rule(1, 101)", x.rule(1, 101), TwelveShort.BAD);
        Due.is("7: rule(1, -1)", x.rule(1, -1), TwelveShort.BAD);
        Due.is("7: rule(2, 0)", x.rule(2, 0), TwelveShort.BAD);
        Due.is("7: rule(-1, 0)", x.rule(-1, 0), TwelveShort.BAD);
        Due.is("7: count(2)", x.count(2), 0);
        Due.is("7: count(3)", x.count(3), 100);
        Due.is("7: rule(1, 0)", x.rule(1, 0), 100);
        Due.is("7: count(3)", x.count(3), 0);
    }

    private static void deal() {
        TwelveShort x = new TwelveShort();
        Due.is("8: deal(0)", x.deal(0), TwelveShort.BAD);
        Due.is("8: deal(11)", x.deal(11), TwelveShort.BAD);
        Due.is("8: deal(-1)", x.deal(-1), TwelveShort.BAD);
        x.seed(77);
        int z = 77;
        Due.is("8: deal(10)", x.deal(10), 10);
        int[] by = {6, 101, 100, 100};
        for (int p = 0; p < 10; p++) {
            for (int what = 0; what < 4; what++) {
                z = z * 1103515245 + 12345;
                Due.is("8: told(" + p + ", " + what + ")", x.told(p, what), (z >>> 8) % by[what]);
            }
            Due.is("8: TIMES", x.told(p, 4), 0);
        }
        Due.is("8: z", x.count(7), z);
        Due.is("8: deal(1) with no room", x.deal(1), 0);
        Due.is("8: no draws for others", x.count(7), z);
        TwelveShort y = new TwelveShort();
        y.deal(8);
        Due.is("8: deal(10) with room for 2", y.deal(10), 2);
        Due.is("8: count(0)", y.count(0), 10);
    }

    private static void seed() {
        TwelveShort x = new TwelveShort();
        Due.is("9: seed(MIN)", x.seed(MIN), 1);
        Due.is("9: seed(MAX)", x.seed(MAX), MIN);
        Due.is("9: count(7)", x.count(7), MAX);
        Due.is("9: seed(0)", x.seed(0), MAX);
    }

    private static void fewest() {
        TwelveShort x = new TwelveShort();
        Due.is("10: of nobody, 0", x.fewest(0, 0), 0);
        Due.is("10: of nobody, 0, how many", x.fewest(0, 1), 0);
        Due.is("10: of nobody, 1", x.fewest(1, 1), TwelveShort.NONE);
        x.person(0, 0, 0, 50);
        x.person(5, 0, 0, 99);
        x.person(1, 0, 0, 20);
        x.person(0, 0, 0, 70);
        x.person(0, 0, 0, 79);
        int[][] due = {{0, 0}, {1, 1}, {5, 1}, {6, 4}, {7, 4}, {8, 5}, {12, 5}, {13, 12}, {14, 12}, {15, 13}, {19, 13},
            {20, 28}, {21, 28}, {22, 29}, {26, 29}};
        for (int[] d : due) {
            Due.is("10: fewest(" + d[0] + ", 0)", x.fewest(d[0], 0), d[1]);
            Due.is("10: fewest(" + d[0] + ", 1)", x.fewest(d[0], 1), Integer.bitCount(d[1]));
        }
        Due.is("10: fewest(27, 0)", x.fewest(27, 0), TwelveShort.NONE);
        TwelveShort y = new TwelveShort();
        for (int i = 0; i < 10; i++) {
            y.person(3, 0, 0, 99);
        }
        Due.is("10: all ten", y.fewest(280, 0), 1023);
        Due.is("10: ten", y.fewest(253, 1), 10);
        Due.is("10: the least of nine", y.fewest(252, 0), 511);
        Due.is("10: more than all", y.fewest(281, 0), TwelveShort.NONE);
        Due.is("10: fewest(999, 1)", x.fewest(999, 1), TwelveShort.NONE);
        Due.is("10: fewest(1000, 0)", x.fewest(1000, 0), TwelveShort.BAD);
        Due.is("10: fewest(-1, 0)", x.fewest(-1, 0), TwelveShort.BAD);
        Due.is("10: fewest(0, 2)", x.fewest(0, 2), TwelveShort.BAD);
        Due.is("10: fewest(0, -1)", x.fewest(0, -1), TwelveShort.BAD);
    }
}
