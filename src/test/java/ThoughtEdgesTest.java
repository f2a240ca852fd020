import java.util.function.BiConsumer;

/** The sentences of the document's section 3 and of promises 14 to 21 that name a bound: a test of its own for each. */
public final class ThoughtEdgesTest {
    private static final int TALK = 0, SAT = 3;

    public static void main(String[] args) {
        p14behindNoneAndAHundred();
        p14timesOfTheLastOne();
        p14ofNobody();
        p14to19withoutTheBoundOfTheEvening();
        p15bothSatAlreadyDoesNotCount();
        p15oneEveningAndTwoHundred();
        p15theLastTwoOfTen();
        p15notByThen();
        p16oneAndSixtyEvenings();
        p16everyoneMayBeTheOne();
        p16ofSeveralTheLeast();
        p16stepsAre0AndNoNearer();
        p16nobodyIsThere();
        p17oneAndSixtyEvenings();
        p17never0AndNever10MayBeBest();
        p17ofSeveralTheLeast();
        p18oneAndSixtyEvenings();
        p18everyKindMayBeBest();
        p18ofSeveralTheLeast();
        p19placeKIsBehindKEvenings();
        p19noPlacesAnd24();
        p19oneOfTen();
        p19placesThatAreNumbers();
        p19signsAreLeftOut();
        p19ofSeveralTheLeast();
        p20feeWithoutATextIsSent();
        p20intsWrap();
        p21fineOfTheFirstAndTheLast();
        Due.finish();
    }

    /** So many drawn from that seed, some fog; if late, THE EVENING is 9999, which nobody has come to. */
    private static TwelveShort dealt(int seed, int many, boolean late) {
        TwelveShort x = new TwelveShort();
        for (int i = 0; late && i < 100; i++) {
            x.evenings(100);
        }
        Due.is("12: THE EVENING", x.count(1), late ? 9999 : 0);
        x.seed(seed);
        x.deal(many);
        x.rule(1, 20);
        return x;
    }

    /** "BEHIND n (0 .. 100) EVENINGS" */
    private static void p14behindNoneAndAHundred() {
        for (int n = 0; n <= 100; n += n < 2 ? 1 : 49) {
            TwelveShort x = dealt(5, 8, false);
            TwelveShort y = dealt(5, 8, false);
            if (n > 0) {
                y.evenings(n);
            }
            for (int what = 0; what <= 4; what++) {
                Due.is("14: behind(" + n + ", " + what + ")", x.behind(n, what), y.house(what));
            }
            for (int k = 0; k < 8; k++) {
                Due.is("14: behind(" + n + ", 5 and " + k + ")", x.behind(n, 5 + k), y.told(k, 4));
            }
        }
        Due.is("14: behind(-1, 0)", dealt(5, 8, false).behind(-1, 0), TwelveShort.BAD);
        Due.is("14: behind(101, 0)", dealt(5, 8, false).behind(101, 0), TwelveShort.BAD);
    }

    /** "5 and k: TIMES of PERSON k. BAD: 5 and k of nobody, too." */
    private static void p14timesOfTheLastOne() {
        TwelveShort x = new TwelveShort();
        for (int many = 0; many <= 10; many++) {
            if (many > 0) {
                Due.is("14: TIMES of the last of " + many, x.behind(0, 4 + many), 100 + many);
            }
            Due.is("14: TIMES of nobody behind " + many, x.behind(0, 5 + many), TwelveShort.BAD);
            x.person(0, 0, 0, 0);
            x.set(many, 4, 101 + many);
        }
        Due.is("14: what -1", x.behind(0, -1), TwelveShort.BAD);
    }

    private static void p14ofNobody() {
        TwelveShort x = new TwelveShort();
        x.rule(0, 0);
        x.rule(1, 100);
        int[] due = {0, 0, 100, 0, 0};
        for (int what = 0; what < 5; what++) {
            Due.is("14: of nobody, what " + what, x.behind(100, what), due[what]);
        }
    }

    /** "(All that follows is only thought, z as it is, without the bound of THE EVENING: nothing changes.)" */
    private static void p14to19withoutTheBoundOfTheEvening() {
        for (int seed = 0; seed < 4; seed++) {
            TwelveShort x = dealt(seed, 7, false);
            TwelveShort y = dealt(seed, 7, true);
            x.sheet(0, 0, 24);
            y.sheet(0, 0, 24);
            for (int what = 0; what < 12; what++) {
                Due.is("14: THE EVENING is 9999, behind(100, " + what + ")", y.behind(100, what), x.behind(100, what));
            }
            for (int what = 0; what < 2; what++) {
                Due.is("15: THE EVENING is 9999", y.meets(1, 2 + what), x.meets(1, 2 + what));
                Due.is("16: THE EVENING is 9999", y.door(60, what), x.door(60, what));
                Due.is("17: THE EVENING is 9999", y.never(60, what), x.never(60, what));
                Due.is("18: THE EVENING is 9999", y.becomes(4, 60, what), x.becomes(4, 60, what));
                Due.is("19: THE EVENING is 9999", y.like(0, what), x.like(0, what));
            }
            Due.is("14: z stays", y.count(7), x.count(7));
            Due.is("14: THE EVENING stays", y.count(1), 9999);
            Due.is("14: TALK stays", y.house(TALK), 0);
            Due.is("14: SAT stays", y.house(SAT), 0);
        }
        TwelveShort z = dealt(9, 2, true);
        z.turns(0, 0);
        z.turns(1, 0);
        Due.text(z, "ask 100");
        Due.is("15: THE EVENING is 9999, and they meet", z.meets(0, 1), 1);
        Due.is("14: THE EVENING is 9999, TIMES", z.behind(100, 5), 100);
    }

    /** "behind how many EVENINGS (1 .. 200)": not behind none. */
    private static void p15bothSatAlreadyDoesNotCount() {
        TwelveShort x = new TwelveShort();
        x.person(0, 50, 0, 0);
        x.person(0, 50, 0, 0);
        x.sits(3);
        Due.text(x, "ask 0");
        Due.is("15: both SAT last, and will never", x.meets(0, 1), TwelveShort.NONE);
        Due.text(x, "ask 100");
        Due.is("15: both SAT last, and will the next time", x.meets(0, 1), 1);
    }

    /** "(1 .. 200)": the third sits n - 2 times from now on; behind an evening on which nobody has sat both come. */
    private static void p15oneEveningAndTwoHundred() {
        int[] evenings = {2, 3, 199, 200, 201, 202, 300};
        for (int n : evenings) {
            TwelveShort x = new TwelveShort();
            x.person(0, 50, 50, 10);
            x.person(0, 50, 50, 20);
            x.person(0, 50, 50, 50);
            x.rule(0, 10);
            x.sits(4);
            x.set(2, 4, 300 - (n - 2));
            Due.text(x, "ask (w=50&t<300|w<50&n=0)*100");
            Due.is("15: both first sit behind " + n, x.meets(0, 1), n <= 200 ? n : TwelveShort.NONE);
            Due.is("15: both first sit behind " + n, x.meets(1, 0), n <= 200 ? n : TwelveShort.NONE);
            Due.is("15: these two never", x.meets(0, 2), TwelveShort.NONE);
        }
    }

    private static void p15theLastTwoOfTen() {
        TwelveShort x = new TwelveShort();
        for (int i = 0; i < 10; i++) {
            x.person(0, 100, 0, i);
        }
        Due.text(x, "ask (w>7)*100");
        x.rule(0, 10);
        Due.is("15: meets(8, 9)", x.meets(8, 9), 1);
        Due.is("15: meets(9, 8)", x.meets(9, 8), 1);
        Due.is("15: meets(7, 8)", x.meets(7, 8), TwelveShort.NONE);
        Due.is("15: meets(9, 10)", x.meets(9, 10), TwelveShort.BAD);
        Due.is("15: meets(9, 9)", x.meets(9, 9), TwelveShort.BAD);
    }

    /** "NONE: not by then": one of them may sit each evening. */
    private static void p15notByThen() {
        TwelveShort x = new TwelveShort();
        x.person(0, 100, 0, 99);
        x.person(5, 100, 0, 0);
        Due.text(x, "ask 100");
        Due.is("15: the DOG never comes", x.meets(0, 1), TwelveShort.NONE);
        x.rule(0, 1);
        Due.is("15: but is sent for", x.meets(0, 1), 1);
    }

    /** What is best by trying all, each with evenings and an IMAGE; TALK then in most[0]. */
    private static int best(TwelveShort x, int many, int n, int[] most, BiConsumer<TwelveShort, Integer> change) {
        int best = -1;
        most[0] = -1;
        x.keep();
        for (int i = 0; i < many; i++) {
            change.accept(x, i);
            x.evenings(n);
            if (x.house(TALK) > most[0]) {
                most[0] = x.house(TALK);
                best = i;
            }
            x.back();
        }
        return best;
    }

    /** "DOOR for n (1 .. 60)" */
    private static void p16oneAndSixtyEvenings() {
        int[] most = new int[1];
        for (int seed = 0; seed < 20; seed++) {
            for (int n = 1; n <= 60; n += n == 1 ? 1 : 58) {
                TwelveShort x = dealt(seed, 1 + seed % 10, false);
                x.rule(0, seed % 4);
                Due.is("16: door(" + n + ", 0)", x.door(n, 0), best(x, x.count(0), n, most, (y, p) -> y.set(p, 2, 0)));
                Due.is("16: door(" + n + ", 1)", x.door(n, 1), most[0]);
            }
        }
        Due.is("16: door(0, 0)", dealt(1, 2, false).door(0, 0), TwelveShort.BAD);
        Due.is("16: door(61, 0)", dealt(1, 2, false).door(61, 0), TwelveShort.BAD);
    }

    /** Nobody comes, 0 must never be: whoever is at the door brings what he brings. */
    private static void p16everyoneMayBeTheOne() {
        for (int who = 0; who < 10; who++) {
            TwelveShort x = new TwelveShort();
            for (int p = 0; p < 10; p++) {
                x.person(0, 0, 50, p == who ? 20 : 10);
            }
            Due.text(x, "ask 0");
            x.rule(0, 0);
            Due.is("16: the one", x.door(1, 0), who);
            Due.is("16: TALK then", x.door(1, 1), 2);
            Due.is("16: TALK then, behind 60", x.door(60, 1), 120);
        }
    }

    /** "of several the least" */
    private static void p16ofSeveralTheLeast() {
        TwelveShort x = new TwelveShort();
        int[] wits = {10, 30, 20, 30, 30};
        for (int wit : wits) {
            x.person(0, 0, 50, wit);
        }
        Due.text(x, "ask 0");
        x.rule(0, 0);
        Due.is("16: the first of three", x.door(1, 0), 1);
        x.rule(0, 9);
        Due.is("16: the first of all, none brings", x.door(60, 0), 0);
        Due.is("16: TALK then", x.door(60, 1), 0);
        TwelveShort y = talked99999();
        Due.is("16: TALK is 99999 anyway", y.door(60, 0), 0);
        Due.is("16: TALK then", y.door(60, 1), 99999);
    }

    /** "the one whose STEPS had best be 0": another one that walks 0 and is the least is sent for all the same. */
    private static void p16stepsAre0AndNoNearer() {
        TwelveShort x = new TwelveShort();
        x.person(0, 0, 0, 10);
        x.person(0, 0, 50, 30);
        Due.text(x, "ask 0");
        x.rule(0, 0);
        Due.is("16: 0 is as near, whoever is at the door", x.door(1, 0), 0);
        Due.is("16: TALK then", x.door(1, 1), 1);
        x.set(0, 2, 1);
        Due.is("16: 1 is not as near", x.door(1, 0), 1);
        Due.is("16: TALK then", x.door(1, 1), 3);
        // NEIGHBOURS walk 10 less, 0 at least: the least of those that walk 0.
        x.turns(0, 2);
        x.set(0, 2, 10);
        x.turns(1, 2);
        Due.is("16: a NEIGHBOUR walks 0 by 10 STEPS", x.door(1, 1), 0);
        x.set(0, 2, 11);
        Due.is("16: a NEIGHBOUR walks 1 by 11 STEPS", x.door(1, 1), 2);
    }

    private static TwelveShort talked99999() {
        TwelveShort x = new TwelveShort();
        for (int i = 0; i < 10; i++) {
            x.person(0, 100, 50, 99);
        }
        Due.text(x, "ask 100");
        for (int i = 0; i < 12; i++) {
            x.evenings(100);
        }
        Due.is("12: TALK", x.house(TALK), 99999);
        return x;
    }

    /** "BAD; NONE: nobody is there." */
    private static void p16nobodyIsThere() {
        for (int what = 0; what < 2; what++) {
            Due.is("16: nobody", new TwelveShort().door(1, what), TwelveShort.NONE);
            Due.is("16: nobody", new TwelveShort().door(60, what), TwelveShort.NONE);
        }
        TwelveShort x = new TwelveShort();
        x.person(5, 0, 99, 0);
        Due.is("16: one is there", x.door(1, 0), 0);
        Due.is("16: one is there, TALK", x.door(1, 1), 0);
    }

    /** "NUMBER for n (1 .. 60)" */
    private static void p17oneAndSixtyEvenings() {
        int[] most = new int[1];
        for (int seed = 0; seed < 20; seed++) {
            for (int n = 1; n <= 60; n += n == 1 ? 1 : 58) {
                TwelveShort x = dealt(seed, 1 + seed % 10, false);
                Due.is("17: never(" + n + ", 0)", x.never(n, 0), best(x, 11, n, most, (y, v) -> y.rule(0, v)));
                Due.is("17: never(" + n + ", 1)", x.never(n, 1), most[0]);
                Due.is("17: NEVER stays", x.count(2), 3);
            }
        }
        Due.is("17: never(0, 0)", dealt(1, 2, false).never(0, 0), TwelveShort.BAD);
        Due.is("17: never(61, 0)", dealt(1, 2, false).never(61, 0), TwelveShort.BAD);
    }

    /** "the NEVER (0 .. 10) that had best be" */
    private static void p17never0AndNever10MayBeBest() {
        for (int come = 0; come < 10; come++) {
            TwelveShort x = new TwelveShort();
            for (int p = 0; p < 10; p++) {
                x.person(0, 0, 50, p < come ? 90 : 80);
            }
            Due.text(x, "ask (w=90)*100");
            Due.is("17: " + come + " come", x.never(60, 0), come);
            Due.is("17: " + come + " come, TALK", x.never(60, 1), 60 * (9 * come + 8));
        }
        // One more each evening, from none to nine of them: but none comes any more, once one who brings nothing was sent for.
        TwelveShort y = new TwelveShort();
        for (int p = 0; p < 9; p++) {
            y.person(0, 50, 50, 10 * (p + 1));
        }
        y.person(0, 50, 0, 0);
        y.sits(1023);
        for (int p = 0; p < 10; p++) {
            y.set(p, 4, 0);
        }
        Due.text(y, "ask (t+w/10=n+1)*100");
        int[] most = new int[1];
        Due.is("17: 10 is best", best(y, 11, 12, most, (x, v) -> x.rule(0, v)), 10);
        Due.is("17: never(12, 0)", y.never(12, 0), 10);
        Due.is("17: never(12, 1)", y.never(12, 1), 45 + 165 + 45);
    }

    /** "likewise; of several the least" */
    private static void p17ofSeveralTheLeast() {
        Due.is("17: of nobody", new TwelveShort().never(60, 0), 0);
        Due.is("17: of nobody, TALK", new TwelveShort().never(60, 1), 0);
        Due.is("17: TALK is 99999 anyway", talked99999().never(60, 0), 0);
        Due.is("17: TALK then", talked99999().never(60, 1), 99999);
        TwelveShort x = new TwelveShort();
        x.person(0, 0, 50, 20);
        x.person(0, 0, 60, 20);
        Due.text(x, "ask 0");
        x.rule(0, 7);
        Due.is("17: only 0 has one sent for", x.never(1, 0), 0);
        Due.text(x, "ask 100");
        Due.is("17: both come, none of 0 .. 10 changes that", x.never(1, 0), 0);
        Due.is("17: TALK then", x.never(1, 1), 4);
    }

    /** "BECOMES of one, for n (1 .. 60)" */
    private static void p18oneAndSixtyEvenings() {
        int[] most = new int[1];
        for (int seed = 0; seed < 20; seed++) {
            for (int n = 1; n <= 60; n += n == 1 ? 1 : 58) {
                TwelveShort x = dealt(seed, 1 + seed % 10, false);
                int who = x.count(0) - 1;
                int kind = x.told(who, 0);
                Due.is("18: becomes(" + n + ", 0)", x.becomes(who, n, 0), best(x, 6, n, most, (y, v) -> y.turns(who, v)));
                Due.is("18: becomes(" + n + ", 1)", x.becomes(who, n, 1), most[0]);
                Due.is("18: KIND stays", x.told(who, 0), kind);
                Due.is("18: behind the last one", x.becomes(who + 1, n, 0), TwelveShort.BAD);
            }
        }
        Due.is("18: becomes(0, 0, 0)", dealt(1, 2, false).becomes(0, 0, 0), TwelveShort.BAD);
        Due.is("18: becomes(0, 61, 0)", dealt(1, 2, false).becomes(0, 61, 0), TwelveShort.BAD);
    }

    /** "the KIND of which it had best be": each of 0 to 5 is best somewhere. */
    private static void p18everyKindMayBeBest() {
        int seen = 0;
        int[] most = new int[1];
        for (int seed = 0; seed < 60; seed++) {
            for (int n = 1; n <= 5; n += 2) {
                TwelveShort x = dealt(seed, 8, false);
                for (int p = 0; p < 8; p++) {
                    int who = p;
                    int due = best(x, 6, n, most, (y, v) -> y.turns(who, v));
                    Due.is("18: seed " + seed + ", becomes(" + who + ", " + n + ", 0)", x.becomes(who, n, 0), due);
                    seen |= 1 << due;
                }
            }
        }
        Due.is("18: each KIND was best", seen, 0b111111);
    }

    private static void p18ofSeveralTheLeast() {
        Due.is("18: TALK is 99999 anyway", talked99999().becomes(9, 60, 0), 0);
        Due.is("18: TALK then", talked99999().becomes(9, 60, 1), 99999);
        // The draw keeps a THIEF, who comes by 10, away.
        TwelveShort x = new TwelveShort();
        x.person(5, 0, 0, 0);
        x.person(0, 0, 99, 99);
        Due.text(x, "ask 0");
        x.rule(0, 10);
        x.seed(Draws.seed(s -> Draws.nth(s, 1, 100) >= 10));
        Due.is("18: whatever it is, none comes", x.becomes(0, 1, 0), 0);
        x.rule(0, 0);
        Due.is("18: the THIEF is sent for", x.becomes(0, 1, 0), 3);
        Due.is("18: TALK then", x.becomes(0, 1, 1), 10);
        x.set(1, 2, 0);
        x.set(0, 2, 61);
        Due.is("18: the other one is sent for, whatever it is", x.becomes(0, 1, 0), 0);
        Due.is("18: TALK then", x.becomes(0, 1, 1), 9);
    }

    /** "TIMES behind k EVENINGS and places k (.. k from 0 on)" */
    private static void p19placeKIsBehindKEvenings() {
        TwelveShort x = dealt(77, 5, false);
        for (int many = 1; many <= 24; many++) {
            TwelveShort y = dealt(77, 5, false);
            int[] sums = new int[5];
            y.sheet(0, 1, many);
            x.sheet(0, 1, many);
            for (int k = 0; k < many; k++) {
                x.mark(0, k, k / 2);
                for (int p = 0; p < 5; p++) {
                    sums[p] += Math.abs(y.told(p, 4) - k / 2);
                }
                y.evenings(1);
            }
            int best = 0;
            for (int p = 1; p < 5; p++) {
                best = sums[p] < sums[best] ? p : best;
            }
            Due.is("19: of " + many + " places, the one", x.like(0, 0), best);
            Due.is("19: of " + many + " places, the differences", x.like(0, 1), sums[best]);
        }
    }

    private static void p19noPlacesAnd24() {
        TwelveShort x = new TwelveShort();
        x.person(0, 0, 0, 0);
        x.set(0, 4, 9);
        for (int sort = 0; sort <= 1; sort++) {
            x.sheet(1, sort, 0);
            Due.is("19: no places, the one", x.like(1, 0), 0);
            Due.is("19: no places, the differences", x.like(1, 1), 0);
            x.sheet(1, sort, 1);
            Due.is("19: one place, the differences", x.like(1, 1), 9);
            Due.text(x, "ask 100");
            x.sheet(1, sort, 24);
            // 9 and 10 and .. and 32.
            Due.is("19: 24 places, the differences", x.like(1, 1), (9 + 32) * 12);
        }
    }

    private static void p19oneOfTen() {
        for (int who = 0; who < 10; who++) {
            TwelveShort x = new TwelveShort();
            for (int p = 0; p < 10; p++) {
                x.person(5, 0, 0, 0);
                x.set(p, 4, p == who ? 500 : 600);
            }
            x.rule(0, 10);
            x.sheet(0, 0, 24);
            for (int k = 0; k < 24; k++) {
                x.mark(0, k, 501);
            }
            Due.is("19: of ten, the one", x.like(0, 0), who);
            Due.is("19: of ten, the differences", x.like(0, 1), 24);
        }
    }

    /** "places k that are numbers" */
    private static void p19placesThatAreNumbers() {
        TwelveShort x = new TwelveShort();
        x.person(0, 0, 0, 0);
        x.set(0, 4, 100);
        Due.text(x, "ask 100");
        x.sheet(2, 1, 3);
        int[] due = {100 + 101 + 102, 101 + 102, 102, 0};
        for (int none = 0; none <= 3; none++) {
            Due.is("19: " + none + " that are none, the differences", x.like(2, 1), due[none]);
            x.mark(2, Math.min(none, 2), TwelveShort.NONE);
        }
        Due.is("19: none is a number, the one", x.like(2, 0), 0);
    }

    /** "differ least (signs left out), together" */
    private static void p19signsAreLeftOut() {
        TwelveShort x = new TwelveShort();
        x.person(0, 0, 0, 0);
        x.person(0, 0, 0, 0);
        x.set(0, 4, 9999);
        Due.text(x, "ask 0");
        x.sheet(0, 1, 24);
        for (int k = 0; k < 24; k++) {
            x.mark(0, k, k % 2 == 0 ? 99999 : -99999);
        }
        Due.is("19: both ways 12 times, of the two as much: the least", x.like(0, 0), 0);
        Due.is("19: both ways 12 times", x.like(0, 1), 24 * 99999);
        for (int k = 0; k < 24; k++) {
            x.mark(0, k, -99999);
        }
        Due.is("19: 24 below, the one", x.like(0, 0), 1);
        Due.is("19: 24 below, the differences", x.like(0, 1), 24 * 99999);
        x.sheet(0, 0, 24);
        for (int k = 0; k < 24; k++) {
            x.mark(0, k, -32768);
        }
        x.set(1, 4, 9999);
        Due.is("19: 24 shorts below, the differences", x.like(0, 1), 24 * (9999 + 32768));
    }

    /** "of several the least" */
    private static void p19ofSeveralTheLeast() {
        TwelveShort x = new TwelveShort();
        int[] times = {9, 5, 7, 5, 7};
        for (int i = 0; i < times.length; i++) {
            x.person(5, 0, 0, 0);
            x.set(i, 4, times[i]);
        }
        x.rule(0, 10);
        x.sheet(0, 0, 1);
        int[][] due = {{6, 1, 1}, {5, 1, 0}, {7, 2, 0}, {8, 0, 1}, {9, 0, 0}, {0, 1, 5}, {100, 0, 91}};
        for (int[] d : due) {
            x.mark(0, 0, d[0]);
            Due.is("19: " + d[0] + ", the one", x.like(0, 0), d[1]);
            Due.is("19: " + d[0] + ", the differences", x.like(0, 1), d[2]);
        }
        x.sheet(3, 0, 1);
        Due.is("19: SHEET 3", x.like(3, 0), 1);
        Due.is("19: SHEET 4", x.like(4, 0), TwelveShort.BAD);
    }

    /** "(.. without a TEXT: SENT)" */
    private static void p20feeWithoutATextIsSent() {
        TwelveShort x = new TwelveShort();
        Due.is("20: SENT 0", x.fee(), 0);
        x.person(0, 0, 0, 0);
        x.rule(0, 0);
        x.sits(0);
        Due.is("20: SENT 1", x.fee(), 1);
        Due.text(x, "ask 9");
        Due.text(x, "fine 9");
        Due.is("20: TEXTS of other KEYS", x.fee(), 1);
        Due.text(x, "fee 0-s");
        Due.is("20: a TEXT of this KEY", x.fee(), -1);
    }

    /** "Ints wrap": what fee and fine give is not held within anything. */
    private static void p20intsWrap() {
        TwelveShort x = new TwelveShort();
        x.person(0, 100, 0, 99);
        Due.text(x, "fee 2*8192*4096*32");
        Due.is("20: the least int", x.fee(), Integer.MIN_VALUE);
        Due.text(x, "fee 2*8192*4096*32-1");
        Due.is("20: the greatest int", x.fee(), Integer.MAX_VALUE);
        Due.text(x, "fine o*w*9999*9999");
        Due.is("21: beyond the greatest int", x.fine(0), (int) (9900L * 9999 * 9999));
        Due.text(x, "fine 0-o*100");
        Due.is("21: below 0", x.fine(0), -10000);
    }

    /** "What fine gives for one. BAD." */
    private static void p21fineOfTheFirstAndTheLast() {
        TwelveShort x = new TwelveShort();
        for (int i = 0; i < 10; i++) {
            Due.is("21: nobody yet", x.fine(i), TwelveShort.BAD);
            x.person(0, 10 * i, 0, 99 - i);
            Due.is("21: without a TEXT: WIT", x.fine(i), 99 - i);
        }
        Due.is("21: fine(10)", x.fine(10), TwelveShort.BAD);
        Due.text(x, "fine o*1000+w");
        Due.is("21: of the first", x.fine(0), 99);
        Due.is("21: of the last", x.fine(9), 90090);
        Due.is("21: of nobody, with a TEXT", x.fine(10), TwelveShort.BAD);
    }
}
