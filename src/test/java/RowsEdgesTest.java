/** The sentences of the document's section 5 and of promises 36 to 40 that name a bound: a test of its own for each. */
public final class RowsEdgesTest {
    private static final int MIN = Integer.MIN_VALUE, MAX = Integer.MAX_VALUE;

    public static void main(String[] args) {
        p36sixtyWait();
        p36anyNumber();
        p37oneAndThirty();
        p37whereTheFirstIsNot();
        p37missingOrOneTooMany();
        p37numbersOfAnEarlierCheckAreGone();
        p37noneWaitWhateverIsAnswered();
        p37fewerUpToTheEvening9999();
        p37byTheImageNotByNow();
        p37ofNobody();
        p37talk99999AtMost();
        p37nothingElseChanges();
        p38nobodyAndTen();
        p38theLastKeptIsTheImage();
        p39againAndAgain();
        p39allThatTheImageKeeps();
        p39allButSheetsSlotsNumbersAndTheTape();
        p39textsOfTheImage();
        p39fullOfTextsAndBack();
        p39goneOnFrom();
        p40atFirstAndAtMost();
        Due.finish();
    }

    /** "FULL: 60 wait." */
    private static void p36sixtyWait() {
        TwelveShort x = new TwelveShort();
        for (int i = 1; i <= 60; i++) {
            Due.is("36: how many", x.tell(i), i);
            Due.is("40: how many", x.count(5), i);
        }
        Due.is("36: the next", x.tell(61), TwelveShort.FULL);
        Due.is("36: the next again", x.tell(61), TwelveShort.FULL);
        Due.is("40: how many", x.count(5), 60);
        x.check(1);
        Due.is("36: room again", x.tell(1), 1);
    }

    private static void p36anyNumber() {
        TwelveShort x = new TwelveShort();
        int[] any = {0, -1, MIN, MAX, TwelveShort.NONE, TwelveShort.BAD};
        for (int i = 0; i < any.length; i++) {
            Due.is("36: " + any[i], x.tell(any[i]), i + 1);
        }
    }

    /** Six drawn PEOPLE in some fog. */
    private static TwelveShort dealt() {
        TwelveShort x = new TwelveShort();
        x.seed(20);
        x.deal(6);
        x.rule(1, 50);
        x.evenings(3);
        x.keep();
        return x;
    }

    /** THE EVENINGS TOLD of dealt(), as evenings go. */
    private static int[] due(int evenings) {
        TwelveShort x = dealt();
        int[] due = new int[2 * evenings];
        for (int i = 0; i < evenings; i++) {
            x.evenings(1);
            due[2 * i] = x.house(0);
            due[2 * i + 1] = x.house(4);
        }
        return due;
    }

    private static void tellAll(TwelveShort x, int[] numbers, int many) {
        for (int i = 0; i < many; i++) {
            x.tell(numbers[i]);
        }
    }

    /** "THE EVENINGS TOLD of n (1 .. 30 ..), two by two: 0" */
    private static void p37oneAndThirty() {
        int[] due = due(30);
        for (int n = 1; n <= 30; n++) {
            TwelveShort x = dealt();
            tellAll(x, due, 2 * n);
            Due.is("37: check(" + n + ")", x.check(n), 0);
        }
        TwelveShort y = dealt();
        Due.is("37: check(0) of none", y.check(0), TwelveShort.BAD);
        tellAll(y, due, 60);
        Due.is("37: check(31) of sixty", y.check(31), TwelveShort.BAD);
    }

    /** "else 1 and how many stand right ahead of the first that is not" */
    private static void p37whereTheFirstIsNot() {
        int[] due = due(30);
        for (int wrong = 0; wrong < 60; wrong++) {
            TwelveShort x = dealt();
            int[] told = due.clone();
            told[wrong] += wrong % 2 == 0 ? 1 : -1;
            tellAll(x, told, 60);
            Due.is("37: " + wrong + " is not", x.check(30), 1 + wrong);
            if (wrong < 59) {
                told[59]++;
            }
            tellAll(x, told, 60);
            Due.is("37: " + wrong + " is not, nor the last", x.check(30), 1 + wrong);
        }
        TwelveShort y = dealt();
        y.tell(due[1]);
        y.tell(due[0]);
        Due.is("37: both, but the other way round", y.check(1), 1);
    }

    /** "(or is missing, or one too many)" */
    private static void p37missingOrOneTooMany() {
        int[] due = due(30);
        for (int n = 1; n <= 30; n += n < 3 ? 1 : 9) {
            for (int many = 0; many <= 60; many++) {
                TwelveShort x = dealt();
                tellAll(x, due, many);
                Due.is("37: check(" + n + ") of " + many, x.check(n), many == 2 * n ? 0 : 1 + Math.min(many, 2 * n));
            }
        }
    }

    private static void p37numbersOfAnEarlierCheckAreGone() {
        int[] due = due(5);
        for (int many = 0; many < 10; many++) {
            TwelveShort x = dealt();
            tellAll(x, due, 10);
            Due.is("37: all", x.check(5), 0);
            tellAll(x, due, many);
            Due.is("37: then " + many + " of them", x.check(5), 1 + many);
        }
    }

    /** "(none do then, whatever is answered)" */
    private static void p37noneWaitWhateverIsAnswered() {
        int[] due = due(2);
        int[] asked = {2, 1, 3, 0, 31, -1, MIN, MAX};
        for (int n : asked) {
            TwelveShort x = dealt();
            tellAll(x, due, 4);
            int want = n == 2 ? 0 : n == 1 ? 3 : n == 3 ? 5 : TwelveShort.BAD;
            Due.is("37: check(" + n + ")", x.check(n), want);
            Due.is("37: none wait behind check(" + n + ")", x.count(5), 0);
            Due.is("36: the next is the first", x.tell(due[0]), 1);
            x.tell(due[1]);
            Due.is("37: the next are checked alone", x.check(1), 0);
        }
        TwelveShort y = new TwelveShort();
        y.tell(0);
        Due.is("37: no IMAGE", y.check(1), TwelveShort.NO);
        Due.is("37: none wait behind NO", y.count(5), 0);
        y.tell(0);
        Due.is("37: no IMAGE, and n", y.check(0), TwelveShort.BAD);
        Due.is("37: none wait behind BAD", y.count(5), 0);
    }

    /** One who never comes, ODDS 100; so many evenings are left up to 9999. */
    private static TwelveShort late(int left) {
        TwelveShort x = new TwelveShort();
        for (int i = 0; i < 99; i++) {
            x.evenings(100);
        }
        x.evenings(99 - left);
        x.person(5, 100, 0, 0);
        x.keep();
        Due.is("37: THE EVENING", x.count(1), 9999 - left);
        return x;
    }

    /** "(.. fewer, if THE EVENING would be above 9999)" */
    private static void p37fewerUpToTheEvening9999() {
        int[] left = {0, 1, 2, 28, 29, 30, 31};
        int[] asked = {1, 2, 29, 30};
        for (int l : left) {
            for (int n : asked) {
                int due = 2 * Math.min(n, l);
                for (int many = Math.max(due - 1, 0); many <= Math.min(due + 1, 60); many++) {
                    TwelveShort x = late(l);
                    for (int i = 0; i < many; i++) {
                        x.tell(i % 2 == 0 ? 0 : 99 - i / 2);
                    }
                    int want = many == due ? 0 : 1 + Math.min(many, due);
                    Due.is("37: " + l + " left, check(" + n + ") of " + many, x.check(n), want);
                }
            }
        }
    }

    /** "by THE IMAGE": whatever is now, also its THE EVENING. */
    private static void p37byTheImageNotByNow() {
        TwelveShort x = late(1);
        x.evenings(1);
        x.rule(0, 0);
        x.turns(0, 3);
        Due.text(x, "ask 100");
        x.seed(5);
        x.tell(0);
        x.tell(99);
        Due.is("37: one left in THE IMAGE, none now", x.check(30), 0);
        x.keep();
        Due.is("37: none left in the new one", x.check(30), 0);
        x.tell(0);
        Due.is("37: none left in the new one, one too many", x.check(30), 1);
        int[] due = due(4);
        TwelveShort y = dealt();
        y.back();
        y.evenings(50);
        y.deal(4);
        Due.text(y, "ask 0");
        tellAll(y, due, 8);
        Due.is("37: by THE IMAGE", y.check(4), 0);
    }

    private static void p37ofNobody() {
        TwelveShort x = new TwelveShort();
        x.keep();
        for (int i = 0; i < 60; i++) {
            x.tell(0);
        }
        Due.is("37: thirty evenings of nobody", x.check(30), 0);
        Due.is("37: of nobody, none told", x.check(1), 1);
        x.tell(0);
        x.tell(1);
        Due.is("37: of nobody, ODDS", x.check(1), 2);
    }

    private static void p37talk99999AtMost() {
        TwelveShort x = new TwelveShort();
        for (int i = 0; i < 10; i++) {
            x.person(0, 100, 0, 99);
        }
        Due.text(x, "ask 100");
        for (int i = 0; i < 11; i++) {
            x.evenings(100);
        }
        x.evenings(10);
        x.keep();
        int[] due = {99990, 1000, 99999, 1000, 99999, 1000};
        tellAll(x, due, 6);
        Due.is("37: TALK up to its most", x.check(3), 0);
    }

    private static void p37nothingElseChanges() {
        TwelveShort x = dealt();
        TwelveShort y = dealt();
        tellAll(x, due(30), 60);
        x.check(30);
        for (int what = 0; what < 8; what++) {
            Due.is("37: count(" + what + ") behind it", x.count(what), y.count(what));
        }
        for (int what = 0; what < 7; what++) {
            Due.is("37: house(" + what + ") behind it", x.house(what), y.house(what));
        }
        Due.is("39: THE IMAGE is as it was", x.back(), y.back());
        Due.is("39: its z", x.count(7), y.count(7));
        Due.is("39: its THE EVENING", x.count(1), 3);
        Due.is("39: its TALK", x.house(0), y.house(0));
    }

    /** "AN IMAGE is kept: how many PEOPLE." */
    private static void p38nobodyAndTen() {
        TwelveShort x = new TwelveShort();
        for (int many = 0; many <= 10; many++) {
            Due.is("38: keep()", x.keep(), many);
            Due.is("39: back()", x.back(), many);
            Due.is("39: PEOPLE", x.count(0), many);
            x.person(0, 0, 0, 0);
        }
    }

    private static void p38theLastKeptIsTheImage() {
        TwelveShort x = new TwelveShort();
        for (int v = 0; v <= 10; v++) {
            x.rule(0, v);
            x.keep();
            x.rule(0, 10 - v);
            x.back();
            Due.is("38: NEVER of the last one", x.count(2), v);
        }
    }

    /** "all can become as it is (again and again)" */
    private static void p39againAndAgain() {
        TwelveShort x = dealt();
        int[] due = due(1);
        for (int again = 0; again < 10; again++) {
            x.evenings(1);
            Due.is("39: TALK, " + again, x.house(0), due[0]);
            Due.is("39: ODDS, " + again, x.house(4), due[1]);
            Due.is("39: THE EVENING, " + again, x.count(1), 4);
            x.evenings(1 + again);
            x.deal(1 + again % 4);
            Due.is("39: back(), " + again, x.back(), 6);
            Due.is("39: back() at once, " + again, x.back(), 6);
        }
    }

    private static int[] kept(TwelveShort x) {
        int[] all = new int[120];
        int n = 0;
        int[] counts = {0, 1, 2, 3, 4, 7};
        for (int what : counts) {
            all[n++] = x.count(what);
        }
        for (int what = 0; what < 7; what++) {
            all[n++] = x.house(what);
        }
        for (int p = 0; p < 10; p++) {
            for (int what = 0; what < 9; what++) {
                all[n++] = x.told(p, what);
            }
        }
        for (int key = 0; key < 3; key++) {
            all[n++] = x.why(key);
        }
        all[n++] = x.fee();
        all[n++] = x.fine(0);
        return all;
    }

    private static void sameKept(String name, TwelveShort x, int[] due) {
        int[] got = kept(x);
        for (int i = 0; i < due.length; i++) {
            Due.is(name + ", " + i, got[i], due[i]);
        }
    }

    /** Something of all that an IMAGE keeps, also SENT and FAILED; it is kept. */
    private static TwelveShort rich() {
        TwelveShort x = dealt();
        Due.text(x, "ask o");
        Due.text(x, "fine w");
        x.rule(0, 6);
        x.sits(63);
        x.rule(0, 0);
        x.sits(0);
        x.keep();
        return x;
    }

    /** "AN IMAGE keeps all": each thing, changed alone, comes back. */
    private static void p39allThatTheImageKeeps() {
        int[] due = kept(rich());
        Scene.Call[] changes = {y -> y.person(0, 1, 1, 1), y -> y.deal(10), y -> y.turns(5, (y.told(5, 0) + 1) % 6),
            y -> y.set(0, 1, 1), y -> y.set(1, 2, 1), y -> y.set(2, 3, 1), y -> y.set(5, 4, 9999), y -> y.rule(0, 10), y -> y.rule(1, 1),
            y -> y.seed(0), y -> y.sits(1), y -> y.sits(63), y -> y.evenings(1), y -> y.evenings(100), y -> Due.text(y, "ask 1"),
            y -> Due.text(y, "fee 7"), y -> Due.text(y, "fine 7"), y -> y.sheet(0, 0, 6) + y.pour(0)};
        for (int i = 0; i < changes.length; i++) {
            TwelveShort y = rich();
            changes[i].on(y);
            int[] other = kept(y);
            boolean differs = false;
            for (int k = 0; k < due.length; k++) {
                differs |= other[k] != due[k];
            }
            Due.is("39: change " + i + " is seen", differs ? 1 : 0, 1);
            Due.is("39: back() behind change " + i, y.back(), 6);
            sameKept("39: behind change " + i, y, due);
        }
    }

    /** "all but SHEETS, SLOTS, numbers that wait, THE TAPE" */
    private static void p39allButSheetsSlotsNumbersAndTheTape() {
        TwelveShort x = new TwelveShort();
        x.sheet(0, 0, 2);
        x.lay(0, 3, 5);
        x.tell(1);
        x.feed(1, 2, 3);
        x.keep();
        x.sheet(0, 1, 3);
        x.mark(0, 2, TwelveShort.NONE);
        x.sheet(1, 0, 1);
        x.lay(0, 3, 6);
        x.lay(1, 2, 0);
        x.tell(2);
        x.trim(0);
        Due.feed(x, "fee 7");
        Due.is("39: back()", x.back(), 0);
        Due.is("39: SHEET 0 is of floats", x.mark(0, 0, TwelveShort.NONE), 1);
        Due.is("39: SHEET 0 has three places", x.mark(0, 3, 0), TwelveShort.INDEX);
        Due.is("39: SHEET 1 is there", x.mark(1, 0, 1), 1);
        Due.is("39: SLOT 0", x.rest(0, 10), 6);
        Due.is("39: SLOT 1", x.item(1, 2), TwelveShort.KIND);
        Due.is("39: numbers that wait", x.count(5), 2);
        Due.is("39: bytes of THE TAPE", x.count(6), 5);
        Due.is("39: THE TAPE", x.text(), 0);
        Due.is("39: what it tells", x.fee(), 7);
    }

    private static void p39textsOfTheImage() {
        TwelveShort x = new TwelveShort();
        Due.text(x, "fee 1");
        x.keep();
        for (int again = 2; again < 9; again++) {
            Due.is("24: the second", Due.text(x, "fee " + again), 1);
            Due.is("24: the third", Due.text(x, "fee " + 10 * again), 2);
            Due.is("20: the third counts", x.fee(), 10 * again);
            Due.is("39: back()", x.back(), 0);
            Due.is("20: the first counts", x.fee(), 1);
            Due.is("40: TEXTS", x.count(4), 1);
            Due.is("25: the second is gone", x.textTold(1, 0), TwelveShort.BAD);
            Due.is("26: the first counts", x.why(1), 0);
        }
        Due.text(x, "fee 2");
        x.keep();
        Due.text(x, "fee 3");
        x.back();
        Due.is("20: the second counts", x.fee(), 2);
        Due.is("24: a FAULT", Due.text(x, "fee 3 3"), -106);
        Due.is("20: the second counts", x.fee(), 2);
    }

    private static void p39fullOfTextsAndBack() {
        TwelveShort x = new TwelveShort();
        for (int i = 0; i < 13; i++) {
            Due.text(x, "fee " + i);
        }
        x.keep();
        for (int again = 0; again < 3; again++) {
            Due.is("24: the fourteenth", Due.text(x, "fee " + (50 + again)), 13);
            Due.is("24: the fifteenth", Due.text(x, "fee 99"), TwelveShort.FULL);
            Due.is("20: the fourteenth counts", x.fee(), 50 + again);
            x.back();
            Due.is("20: the thirteenth counts", x.fee(), 12);
        }
        Due.text(x, "fee 77");
        x.keep();
        Due.is("24: the fifteenth", Due.text(x, "fee 99"), TwelveShort.FULL);
        x.back();
        Due.is("24: the fifteenth", Due.text(x, "fee 99"), TwelveShort.FULL);
        Due.is("20: the fourteenth counts", x.fee(), 77);
    }

    /** ".. kept and gone on from": behind back() all goes as it went the first time. */
    private static void p39goneOnFrom() {
        TwelveShort x = dealt();
        x.evenings(100);
        int[] due = kept(x);
        x.back();
        x.evenings(60);
        x.evenings(40);
        sameKept("39: gone on from THE IMAGE", x, due);
        x.back();
        Due.is("14: thought from THE IMAGE", x.behind(100, 0), due[6]);
    }

    private static void p40atFirstAndAtMost() {
        int[] first = {0, 0, 3, 0, 0, 0, 0, 1};
        int[] most = {10, 9999, 10, 100, 14, 60, 96};
        TwelveShort x = Scene.BRIM.made();
        for (int what = 0; what < 8; what++) {
            Due.is("40: count(" + what + ") at first", new TwelveShort().count(what), first[what]);
            if (what < 7) {
                Due.is("40: count(" + what + ") at most", x.count(what), most[what]);
            }
        }
        x.seed(MIN);
        Due.is("40: z", x.count(7), MIN);
        x.seed(MAX);
        Due.is("40: z", x.count(7), MAX);
        Due.is("40: count(-1)", x.count(-1), TwelveShort.BAD);
        Due.is("40: count(8)", x.count(8), TwelveShort.BAD);
    }
}
