/** Promises 14 to 21. */
public final class ThoughtTest {
    public static void main(String[] args) {
        behind();
        meets();
        door();
        doorInTheFog();
        never();
        becomes();
        like();
        feeAndFine();
        Due.finish();
    }

    private static TwelveShort dealt(int seed) {
        TwelveShort x = new TwelveShort();
        x.seed(seed);
        x.deal(6);
        x.rule(1, 30);
        x.rule(0, 2);
        return x;
    }

    private static void behind() {
        TwelveShort x = dealt(9);
        for (int what = 0; what < 5; what++) {
            Due.is("14: behind(0, " + what + ")", x.behind(0, what), x.house(what));
        }
        int[] due = new int[11];
        for (int what = 0; what < 11; what++) {
            due[what] = x.behind(100, what);
        }
        Due.is("14: z stays", x.count(7), dealt(9).count(7));
        Due.is("14: THE EVENING stays", x.count(1), 0);
        x.evenings(100);
        for (int what = 0; what < 5; what++) {
            Due.is("14: house(" + what + ") 100 evenings later", x.house(what), due[what]);
        }
        for (int p = 0; p < 6; p++) {
            Due.is("14: TIMES of " + p + " 100 evenings later", x.told(p, 4), due[5 + p]);
        }
        Due.is("14: behind(-1, 0)", x.behind(-1, 0), TwelveShort.BAD);
        Due.is("14: behind(101, 0)", x.behind(101, 0), TwelveShort.BAD);
        Due.is("14: behind(1, -1)", x.behind(1, -1), TwelveShort.BAD);
        Due.is("14: behind(1, 11) of nobody", x.behind(1, 11), TwelveShort.BAD);
        Due.is("14: behind(1, MAX)", x.behind(1, Integer.MAX_VALUE), TwelveShort.BAD);
        Due.is("14: behind(1, 5) of nobody", new TwelveShort().behind(1, 5), TwelveShort.BAD);
    }

    private static void meets() {
        TwelveShort x = new TwelveShort();
        x.person(0, 100, 0, 0);
        x.person(0, 100, 0, 0);
        x.person(5, 0, 0, 0);
        Due.is("15: meets(0, 1)", x.meets(0, 1), 1);
        Due.is("15: meets(0, 2)", x.meets(0, 2), TwelveShort.NONE);
        Due.is("15: meets(1, 1)", x.meets(1, 1), TwelveShort.BAD);
        Due.is("15: meets(0, 3)", x.meets(0, 3), TwelveShort.BAD);
        Due.is("15: meets(-1, 0)", x.meets(-1, 0), TwelveShort.BAD);
        x.rule(0, 2);
        Due.is("15: the dog is sent for", x.meets(2, 0), 1);
        x.sits(3);
        Due.is("15: not now, but behind an evening", x.meets(0, 1), 1);
        TwelveShort y = dealt(31);
        int due = y.meets(1, 4);
        int n = 0;
        do {
            y.evenings(1);
            n++;
        } while (n < 200 && (y.house(3) & 18) != 18);
        Due.is("15: as it comes then", n, due);
        Due.is("15: both have sat", y.house(3) & 18, 18);
        for (int due200 = 199; due200 <= 201; due200++) {
            TwelveShort w = new TwelveShort();
            w.person(0, 0, 0, 0);
            w.person(0, 0, 0, 0);
            Due.text(w, "ask 7");
            w.seed(seedOfMeeting(due200));
            Due.is("15: behind " + due200, w.meets(0, 1), due200 > 200 ? TwelveShort.NONE : due200);
        }
    }

    /** With two that come by 7 each, and are never sent for. */
    private static int seedOfMeeting(int n) {
        int seed = 0;
        while (firstMeeting(seed) != n) {
            seed++;
        }
        return seed;
    }

    private static int firstMeeting(int seed) {
        int z = seed;
        for (int n = 1; n < 300; n++) {
            z = z * 1103515245 + 12345;
            boolean one = (z >>> 8) % 100 < 7;
            z = z * 1103515245 + 12345;
            boolean two = (z >>> 8) % 100 < 7;
            z = z * 1103515245 + 12345;
            if (one && two) {
                return n;
            }
        }
        return 300;
    }

    /** ask is 100 for whoever has WIT 90, else 0: of those that must never be one, the nearest other is sent for. */
    private static TwelveShort sending() {
        TwelveShort x = new TwelveShort();
        x.person(0, 50, 50, 90);
        x.person(0, 50, 40, 10);
        x.person(0, 50, 60, 70);
        x.person(0, 50, 70, 79);
        Due.text(x, "ask (w=90)*100");
        x.rule(0, 1);
        return x;
    }

    private static void door() {
        TwelveShort x = sending();
        Due.is("16: door(1, 0)", x.door(1, 0), 2);
        Due.is("16: door(1, 1)", x.door(1, 1), 16);
        Due.is("16: door(60, 1)", x.door(60, 1), 960);
        Due.is("16: STEPS stay", x.told(2, 2), 60);
        x.set(3, 2, 0);
        Due.is("16: the first of two at the door is sent for", x.door(1, 0), 0);
        x.set(2, 3, 88);
        Due.is("16: the first of two at the door is better", x.door(1, 0), 2);
        x.set(2, 3, 70);
        x.set(3, 2, 70);
        x.rule(0, 5);
        Due.is("16: all are as good", x.door(60, 0), 0);
        Due.is("16: door(0, 0)", x.door(0, 0), TwelveShort.BAD);
        Due.is("16: door(61, 0)", x.door(61, 0), TwelveShort.BAD);
        Due.is("16: door(1, 2)", x.door(1, 2), TwelveShort.BAD);
        Due.is("16: door(1, -1)", x.door(1, -1), TwelveShort.BAD);
        Due.is("16: nobody", new TwelveShort().door(1, 0), TwelveShort.NONE);
        Due.is("16: nobody, bad", new TwelveShort().door(0, 0), TwelveShort.BAD);
    }

    /** The fog takes whom it takes, also one who stands at the door now. */
    private static void doorInTheFog() {
        TwelveShort x = sending();
        x.rule(1, 100);
        x.keep();
        int best = 0;
        int most = -1;
        for (int p = 0; p < 4; p++) {
            x.set(p, 2, 0);
            x.evenings(50);
            if (x.house(0) > most) {
                most = x.house(0);
                best = p;
            }
            x.back();
        }
        Due.is("16: door(50, 0)", x.door(50, 0), best);
        Due.is("16: door(50, 1)", x.door(50, 1), most);
    }

    private static void never() {
        TwelveShort x = sending();
        x.set(2, 2, 0);
        Due.is("17: never(10, 0)", x.never(10, 0), 1);
        Due.is("17: never(10, 1)", x.never(10, 1), 160);
        Due.is("17: NEVER stays", x.count(2), 1);
        x.set(2, 2, 60);
        x.turns(1, 5);
        x.set(0, 3, 9);
        Due.is("17: none comes, 0 is best", x.never(1, 0), 0);
        Due.is("17: 0 is sent for", x.never(1, 1), 0);
        x.set(0, 2, 70);
        Due.is("17: 2 is sent for", x.never(60, 1), 420);
        Due.is("17: never(0, 0)", x.never(0, 0), TwelveShort.BAD);
        Due.is("17: never(61, 0)", x.never(61, 0), TwelveShort.BAD);
        Due.is("17: never(1, 2)", x.never(1, 2), TwelveShort.BAD);
        Due.is("17: never(1, -1)", x.never(1, -1), TwelveShort.BAD);
        Due.is("17: nobody", new TwelveShort().never(1, 0), 0);
        TwelveShort y = new TwelveShort();
        for (int i = 0; i < 9; i++) {
            y.person(0, 100, 0, 0);
        }
        y.person(5, 0, 0, 0);
        y.turns(9, 3);
        Due.text(y, "ask (o>90)*100");
        Due.is("17: nine come, the thief is sent for", y.never(1, 0), 9);
        Due.is("17: he brings ten", y.never(1, 1), 10);
    }

    private static void becomes() {
        TwelveShort x = sending();
        // The last one is sent for from 0 steps on, as whatever but a DOG; a THIEF brings most.
        x.set(3, 2, 0);
        Due.is("18: sent for as a THIEF", x.becomes(3, 1, 0), 3);
        Due.is("18: what he brings, too", x.becomes(3, 1, 1), 9 + 24);
        x.set(3, 2, 70);
        Due.text(x, "ask 100*(w>69)");
        x.rule(0, 9);
        for (int n = 1; n <= 60; n += 59) {
            int best = 0;
            int most = -1;
            x.keep();
            for (int kind = 0; kind < 6; kind++) {
                x.turns(2, kind);
                x.evenings(n);
                if (x.house(0) > most) {
                    most = x.house(0);
                    best = kind;
                }
                x.back();
            }
            Due.is("18: becomes(2, " + n + ", 0)", x.becomes(2, n, 0), best);
            Due.is("18: becomes(2, " + n + ", 1)", x.becomes(2, n, 1), most);
        }
        Due.is("18: KIND stays", x.told(2, 0), 0);
        Due.text(x, "ask 0");
        x.seed(1);
        // The third draw's rest is 10 or more, so that not even a THIEF comes.
        Due.is("18: all are as good", x.becomes(2, 1, 0), 0);
        Due.is("18: nobody comes", x.becomes(2, 1, 1), 0);
        Due.is("18: becomes(4, 1, 0)", x.becomes(4, 1, 0), TwelveShort.BAD);
        Due.is("18: becomes(-1, 1, 0)", x.becomes(-1, 1, 0), TwelveShort.BAD);
        Due.is("18: becomes(0, 0, 0)", x.becomes(0, 0, 0), TwelveShort.BAD);
        Due.is("18: becomes(0, 61, 0)", x.becomes(0, 61, 0), TwelveShort.BAD);
        Due.is("18: becomes(0, 1, 2)", x.becomes(0, 1, 2), TwelveShort.BAD);
        Due.is("18: becomes(0, 1, -1)", x.becomes(0, 1, -1), TwelveShort.BAD);
    }

    private static void like() {
        TwelveShort x = new TwelveShort();
        Due.is("19: like(4, 0)", x.like(4, 0), TwelveShort.BAD);
        Due.is("19: like(-1, 0)", x.like(-1, 0), TwelveShort.BAD);
        Due.is("19: like(0, 2)", x.like(0, 2), TwelveShort.BAD);
        Due.is("19: like(0, -1)", x.like(0, -1), TwelveShort.BAD);
        Due.is("19: MISSING", x.like(0, 0), TwelveShort.NOTHING);
        x.sheet(0, 1, 4);
        Due.is("19: nobody", x.like(0, 0), TwelveShort.NONE);
        x.person(5, 0, 0, 0);
        x.person(0, 100, 0, 0);
        x.person(0, 100, 0, 0);
        x.set(2, 4, 5);
        // TIMES go 0 0 0 0, 0 1 2 3, 5 6 7 8.
        Due.is("19: 0 0 0 0", x.like(0, 0), 0);
        Due.is("19: 0 0 0 0", x.like(0, 1), 0);
        x.mark(0, 0, TwelveShort.NONE);
        x.mark(0, 1, 2);
        x.mark(0, 2, 2);
        x.mark(0, 3, 2);
        Due.is("19: - 2 2 2, the one", x.like(0, 0), 1);
        Due.is("19: - 2 2 2, the differences", x.like(0, 1), 1 + 0 + 1);
        x.mark(0, 1, -20);
        x.mark(0, 2, 40);
        x.mark(0, 3, 4);
        Due.is("19: - -20 40 4, the one", x.like(0, 0), 1);
        Due.is("19: - -20 40 4, the differences", x.like(0, 1), 21 + 38 + 1);
        x.sheet(0, 0, 24);
        for (int k = 0; k < 24; k++) {
            x.mark(0, k, 5 + k);
        }
        Due.is("19: 24 places, the one", x.like(0, 0), 2);
        Due.is("19: 24 places, the differences", x.like(0, 1), 0);
        Due.is("19: nothing changes", x.count(7), 1);
        x.sheet(0, 0, 0);
        Due.is("19: no places", x.like(0, 0), 0);
        Due.is("19: no places", x.like(0, 1), 0);
    }

    private static void feeAndFine() {
        TwelveShort x = new TwelveShort();
        x.rule(0, 0);
        x.sits(0);
        x.person(0, 40, 0, 77);
        x.sits(0);
        x.sits(0);
        Due.is("20: without a TEXT", x.fee(), 2);
        Due.is("21: without a TEXT", x.fine(0), 77);
        Due.is("21: fine(1)", x.fine(1), TwelveShort.BAD);
        Due.is("21: fine(-1)", x.fine(-1), TwelveShort.BAD);
        Due.text(x, "fee s*100+f*7");
        Due.is("20: with one", x.fee(), 207);
        Due.text(x, "fine o*100-w");
        Due.is("21: with one", x.fine(0), 4400 - 77);
        Due.text(x, "fee 9999*9999*9999");
        Due.is("20: ints wrap", x.fee(), 9999 * 9999 * 9999);
    }
}
