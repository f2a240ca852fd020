/** Promises 36 to 40. */
public final class RowsTest {
    public static void main(String[] args) {
        tell();
        check();
        checkAtTheEnd();
        keepAndBack();
        textsOfTheImage();
        count();
        Due.finish();
    }

    private static void tell() {
        TwelveShort x = new TwelveShort();
        for (int i = 1; i <= 60; i++) {
            Due.is("36: tell " + i, x.tell(-i), i);
        }
        Due.is("36: the next", x.tell(1), TwelveShort.FULL);
        Due.is("36: count(5)", x.count(5), 60);
    }

    private static void tellAll(TwelveShort x, int[] numbers, int many) {
        for (int i = 0; i < many; i++) {
            x.tell(numbers[i]);
        }
    }

    private static void check() {
        TwelveShort x = new TwelveShort();
        x.tell(1);
        Due.is("37: check(0) without an IMAGE", x.check(0), TwelveShort.BAD);
        Due.is("37: none wait", x.count(5), 0);
        x.tell(1);
        Due.is("37: check(1) without an IMAGE", x.check(1), TwelveShort.NO);
        Due.is("37: none wait", x.count(5), 0);
        x.seed(3);
        x.deal(5);
        x.rule(1, 40);
        x.keep();
        int[] due = new int[60];
        for (int i = 0; i < 30; i++) {
            x.evenings(1);
            due[2 * i] = x.house(0);
            due[2 * i + 1] = x.house(4);
        }
        // What is now differs from THE IMAGE, and does not count.
        x.rule(0, 9);
        x.turns(0, 5);
        Due.text(x, "ask 50");
        int z = x.count(7);
        tellAll(x, due, 60);
        Due.is("37: check(30)", x.check(30), 0);
        Due.is("37: none wait", x.count(5), 0);
        Due.is("37: none, but 2 are due", x.check(1), 1);
        for (int many = 0; many <= 8; many++) {
            tellAll(x, due, many);
            int want = many == 6 ? 0 : 1 + Math.min(many, 6);
            Due.is("37: check(3) of " + many, x.check(3), want);
        }
        for (int wrong = 0; wrong < 6; wrong++) {
            due[wrong]++;
            tellAll(x, due, 6);
            Due.is("37: check(3), " + wrong + " is wrong", x.check(3), 1 + wrong);
            due[wrong]--;
        }
        tellAll(x, due, 6);
        Due.is("37: check(31)", x.check(31), TwelveShort.BAD);
        Due.is("37: none wait", x.count(5), 0);
        tellAll(x, due, 6);
        Due.is("37: check(-1)", x.check(-1), TwelveShort.BAD);
        Due.is("37: none wait", x.count(5), 0);
        Due.is("37: z stays", x.count(7), z);
        Due.is("37: THE EVENING stays", x.count(1), 30);
    }

    private static void checkAtTheEnd() {
        TwelveShort x = new TwelveShort();
        x.person(5, 100, 0, 0);
        for (int i = 0; i < 99; i++) {
            x.evenings(100);
        }
        x.evenings(97);
        x.set(0, 1, 100);
        x.keep();
        Due.is("37: THE EVENING", x.count(1), 9997);
        int[] due = {0, 99, 0, 98, 0, 97};
        tellAll(x, due, 4);
        Due.is("37: fewer", x.check(30), 0);
        tellAll(x, due, 6);
        Due.is("37: fewer, one too many", x.check(30), 5);
        x.evenings(2);
        tellAll(x, due, 4);
        Due.is("37: by THE IMAGE, not by now", x.check(2), 0);
        x.keep();
        Due.is("37: no evening more", x.check(30), 0);
        x.tell(0);
        Due.is("37: no evening more, one too many", x.check(1), 1);
    }

    private static int[] all(TwelveShort x) {
        int[] all = new int[80];
        int n = 0;
        for (int p = 0; p < 6; p++) {
            for (int what = 0; what < 9; what++) {
                all[n++] = x.told(p, what);
            }
        }
        for (int what = 0; what < 7; what++) {
            all[n++] = x.house(what);
        }
        for (int what = 0; what < 5; what++) {
            all[n++] = x.count(what);
        }
        all[n++] = x.count(7);
        all[n++] = x.why(0);
        all[n++] = x.why(1);
        all[n++] = x.fee();
        return all;
    }

    private static void keepAndBack() {
        TwelveShort x = new TwelveShort();
        Due.is("39: back() without an IMAGE", x.back(), TwelveShort.NO);
        Due.is("38: keep() of nobody", x.keep(), 0);
        x.deal(5);
        x.set(0, 4, 77);
        x.rule(0, 5);
        x.sits(31);
        Due.is("11: FAILED", x.house(2), 1);
        Due.is("39: back() to nobody", x.back(), 0);
        Due.is("39: count(0)", x.count(0), 0);
        Due.is("39: FAILED", x.house(2), 0);
        x.person(0, 1, 2, 3);
        Due.is("2: TIMES of a new one", x.told(0, 4), 0);
        x.back();
        x.seed(99);
        x.deal(4);
        x.rule(0, 2);
        x.rule(1, 20);
        Due.text(x, "fee s+1000");
        x.evenings(10);
        int[] due = all(x);
        Due.is("38: keep()", x.keep(), 4);
        for (int again = 0; again < 2; again++) {
            x.deal(2);
            x.rule(0, 1);
            x.rule(1, 70);
            Due.text(x, "ask 7");
            Due.text(x, "fee 7");
            x.turns(0, 5);
            x.set(1, 3, 0);
            x.evenings(10);
            x.sheet(0, 0, 1 + again);
            x.lay(0, 3, again);
            x.tell(again);
            x.feed(0, 0, 0);
            Due.is("39: back()", x.back(), 4);
            int[] got = all(x);
            for (int i = 0; i < due.length; i++) {
                Due.is("39: row " + i, got[i], due[i]);
            }
            Due.is("39: SHEETS stay", x.mark(0, again, 1), 1);
            Due.is("39: SLOTS stay", x.rest(0, 5), again);
            Due.is("39: numbers that wait stay", x.count(5), 1 + again);
            Due.is("39: THE TAPE stays", x.count(6), 12);
            x.trim(0);
        }
    }

    private static void textsOfTheImage() {
        TwelveShort x = new TwelveShort();
        x.person(0, 50, 0, 0);
        Due.text(x, "ask 100");
        Due.text(x, "fee 5");
        x.keep();
        Due.is("24: more", Due.text(x, "ask 0"), 2);
        x.tell(0);
        x.tell(52);
        Due.is("37: by the ask of THE IMAGE", x.check(1), 0);
        Due.is("39: back()", x.back(), 1);
        Due.is("39: TEXTS", x.count(4), 2);
        Due.is("39: why(0)", x.why(0), 0);
        Due.is("25: the third is gone", x.textTold(2, 0), TwelveShort.BAD);
        Due.is("24: another third", Due.text(x, "fine 3+4"), 2);
        Due.is("25: it is fine", x.textTold(2, 0), 2);
        Due.is("21: fine(0)", x.fine(0), 7);
        Due.is("20: fee()", x.fee(), 5);
        x.back();
        Due.is("26: why(2)", x.why(2), TwelveShort.NONE);
        for (int i = 2; i < 14; i++) {
            Due.is("24: text " + i, Due.text(x, "fee 6"), i);
        }
        Due.is("24: FULL", Due.text(x, "fee 6"), TwelveShort.FULL);
        x.back();
        Due.is("24: room again", Due.text(x, "fee 8"), 2);
        Due.is("20: fee()", x.fee(), 8);
    }

    private static void count() {
        TwelveShort x = new TwelveShort();
        x.deal(3);
        x.evenings(7);
        x.rule(0, 8);
        x.rule(1, 9);
        Due.text(x, "ask 1");
        x.tell(1);
        x.tell(1);
        x.feed(1, 2, 3);
        x.seed(-5);
        int[] due = {3, 7, 8, 9, 1, 2, 12, -5};
        for (int what = 0; what < 8; what++) {
            Due.is("40: count(" + what + ")", x.count(what), due[what]);
        }
        Due.is("40: count(8)", x.count(8), TwelveShort.BAD);
        Due.is("40: count(-1)", x.count(-1), TwelveShort.BAD);
    }
}
