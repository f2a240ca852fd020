/** The sentences of the document's section 2 and of promises 11 to 13 that name a bound: a test of its own for each. */
public final class EveningsEdgesTest {
    private static final int ODDS = 1, STEPS = 2, TIMES = 4;
    private static final int TALK = 0, SENT = 1, FAILED = 2, SAT = 3;

    public static void main(String[] args) {
        p11noSetAndTheWholeSet();
        p11justAsManyAsNeverTells();
        p11never0IsNobodyAtTheTable();
        p11never10IsAll();
        p11neverAboveHowManyThereAre();
        p11failedIfThereIsNoOther();
        p11nearestOfSeveralTheLeast();
        p11nearestByWhatTheyWalk();
        p11whoIsSentForSitsLikeTheOthers();
        p11odds100AtMost();
        p11odds0AtLeast();
        p11times9999AtMost();
        p11talkUpTo99999();
        p11talk99999AtMostAllTogether();
        p11satAreThoseThatSit();
        p11noDrawAndNoEvening();
        p12comesIfTheRestIsBelow();
        p12comesBy0AndBy100();
        p12oneDrawForEach();
        p12comesByWhoSatLast();
        p12fogIfTheRestIsBelow();
        p12fog0AndFog100();
        p12fogOverNobody();
        p12fogTakesTheFirstAndTheLast();
        p12fogComesBehindTheDinner();
        p12oneAndAHundred();
        p12theEvening9999AtMost();
        p12byHowMuchSentIsMore();
        p13nearestOfThoseThatDidNotSit();
        p13sumsOfNobodyAndOfTen();
        Due.finish();
    }

    /** So many PERSONS of ODDS 50, 50 STEPS and WIT 10 (each brings 1). */
    private static TwelveShort persons(int many) {
        TwelveShort x = new TwelveShort();
        for (int i = 0; i < many; i++) {
            x.person(0, 50, 50, 10);
        }
        return x;
    }

    /** "A DINNER of a set now .. BAD: it is no set of PEOPLE." */
    private static void p11noSetAndTheWholeSet() {
        for (int many = 0; many <= 10; many++) {
            TwelveShort x = persons(many);
            x.rule(0, many == 5 ? 6 : 5);
            int all = (1 << many) - 1;
            Due.is("11: nobody of " + many, x.sits(0), 0);
            Due.is("11: all of " + many, x.sits(all), many);
            Due.is("11: beyond all of " + many, x.sits(all + 1), TwelveShort.BAD);
            Due.is("11: below nobody of " + many, x.sits(-1), TwelveShort.BAD);
            Due.is("11: SAT", x.house(SAT), all);
        }
    }

    /** "if these are just as many as NEVER tells" */
    private static void p11justAsManyAsNeverTells() {
        for (int never = 1; never <= 8; never++) {
            for (int more = -1; more <= 1; more++) {
                TwelveShort x = persons(10);
                x.rule(0, never);
                int set = (1 << never + more) - 1;
                int due = more == 0 ? never + 1 : never + more;
                Due.is("11: " + (never + more) + " sit, NEVER " + never, x.sits(set), due);
                Due.is("11: SAT", Integer.bitCount(x.house(SAT)), due);
                Due.is("11: SENT", x.house(SENT), more == 0 ? 1 : 0);
                Due.is("11: FAILED", x.house(FAILED), 0);
            }
        }
    }

    /** "NEVER 0 .. 10", at 0 */
    private static void p11never0IsNobodyAtTheTable() {
        TwelveShort x = persons(2);
        x.rule(0, 0);
        Due.is("11: nobody, one is sent for", x.sits(0), 1);
        Due.is("11: SENT", x.house(SENT), 1);
        Due.is("11: one, none is sent for", x.sits(2), 1);
        Due.is("11: SENT", x.house(SENT), 1);
        Due.is("11: both, no FAILED", x.sits(3), 2);
        Due.is("11: FAILED", x.house(FAILED), 0);
    }

    /** "NEVER 0 .. 10", at 10 */
    private static void p11never10IsAll() {
        TwelveShort x = persons(10);
        x.rule(0, 10);
        Due.is("11: nine", x.sits(511), 9);
        Due.is("11: SENT", x.house(SENT), 0);
        Due.is("11: FAILED", x.house(FAILED), 0);
        Due.is("11: ten", x.sits(1023), 10);
        Due.is("11: SENT", x.house(SENT), 0);
        Due.is("11: FAILED", x.house(FAILED), 1);
    }

    private static void p11neverAboveHowManyThereAre() {
        TwelveShort x = persons(2);
        Due.is("11: both, NEVER 3", x.sits(3), 2);
        x.rule(0, 10);
        Due.is("11: both, NEVER 10", x.sits(3), 2);
        Due.is("11: SENT", x.house(SENT), 0);
        Due.is("11: FAILED", x.house(FAILED), 0);
    }

    /** "(FAILED instead, if there is no other)" */
    private static void p11failedIfThereIsNoOther() {
        for (int many = 0; many <= 10; many++) {
            TwelveShort x = persons(many);
            x.rule(0, many);
            Due.is("11: all of " + many, x.sits((1 << many) - 1), many);
            Due.is("11: FAILED", x.house(FAILED), 1);
            Due.is("11: SENT", x.house(SENT), 0);
            Due.is("11: SAT", x.house(SAT), (1 << many) - 1);
            x.sits((1 << many) - 1);
            Due.is("11: FAILED again", x.house(FAILED), 2);
        }
    }

    /** "NEAREST (WALKS least; of several the least)" */
    private static void p11nearestOfSeveralTheLeast() {
        TwelveShort x = persons(4);
        x.rule(0, 1);
        x.sits(1);
        Due.is("11: 1 of 1, 2 and 3", x.house(SAT), 0b0011);
        x.sits(2);
        Due.is("11: 0 of 0, 2 and 3", x.house(SAT), 0b0011);
        x.set(3, STEPS, 49);
        x.sits(1);
        Due.is("11: 3 is nearer", x.house(SAT), 0b1001);
        x.set(2, STEPS, 49);
        x.sits(1);
        Due.is("11: 2 and 3 are nearer", x.house(SAT), 0b0101);
        x.set(0, STEPS, 0);
        x.sits(1);
        Due.is("11: 0 is nearest, but sits", x.house(SAT), 0b0101);
    }

    /** "WALKS least": by what each KIND walks, and not by STEPS. */
    private static void p11nearestByWhatTheyWalk() {
        // KIND and STEPS of 1 and of 2, and who is nearest.
        int[][] due = {{5, 0, 0, 99, 1}, {0, 99, 5, 0, 1}, {5, 0, 0, 98, 2}, {1, 50, 5, 0, 2}, {1, 49, 5, 99, 1}, {3, 52, 5, 0, 1},
            {3, 53, 5, 0, 2}, {0, 0, 2, 10, 1}, {0, 1, 2, 10, 2}, {2, 10, 4, 11, 1}, {2, 11, 4, 11, 2}, {4, 12, 2, 11, 1},
            {0, 0, 3, 2, 1}, {0, 1, 3, 2, 2}, {0, 1, 3, 3, 1}};
        for (int[] d : due) {
            TwelveShort x = persons(1);
            x.person(d[0], 50, d[1], 10);
            x.person(d[2], 50, d[3], 10);
            x.rule(0, 1);
            x.sits(1);
            Due.is("11: " + d[0] + " " + d[1] + " or " + d[2] + " " + d[3], x.house(SAT), 1 | 1 << d[4]);
            x.rule(0, 10);
            x.sits(1);
            Due.is("13: " + d[0] + " " + d[1] + " or " + d[2] + " " + d[3], x.house(6), d[4]);
        }
    }

    /** "sits, too": ODDS, TIMES, TALK and SAT as of all that sit. */
    private static void p11whoIsSentForSitsLikeTheOthers() {
        TwelveShort x = persons(3);
        x.set(2, STEPS, 0);
        x.set(2, 3, 99);
        x.rule(0, 1);
        Due.is("11: what they bring", x.sits(1), 10);
        int[][] due = {{52, 1}, {49, 0}, {52, 1}};
        for (int p = 0; p < 3; p++) {
            Due.is("11: ODDS of " + p, x.told(p, ODDS), due[p][0]);
            Due.is("11: TIMES of " + p, x.told(p, TIMES), due[p][1]);
        }
        Due.is("11: TALK", x.house(TALK), 10);
    }

    /** "ODDS 2 more (100 at most)" */
    private static void p11odds100AtMost() {
        int[][] due = {{0, 2}, {97, 99}, {98, 100}, {99, 100}, {100, 100}};
        for (int[] d : due) {
            TwelveShort x = persons(1);
            x.set(0, ODDS, d[0]);
            x.sits(1);
            Due.is("11: ODDS of one that sits, from " + d[0], x.told(0, ODDS), d[1]);
        }
    }

    /** "ODDS 1 less (0 at least)" */
    private static void p11odds0AtLeast() {
        int[][] due = {{0, 0}, {1, 0}, {2, 1}, {100, 99}};
        for (int[] d : due) {
            TwelveShort x = persons(1);
            x.set(0, ODDS, d[0]);
            x.sits(0);
            Due.is("11: ODDS of one that does not, from " + d[0], x.told(0, ODDS), d[1]);
            Due.is("11: TIMES of one that does not", x.told(0, TIMES), 0);
        }
    }

    /** "TIMES 1 more (9999 at most)" */
    private static void p11times9999AtMost() {
        int[][] due = {{0, 1}, {9997, 9998}, {9998, 9999}, {9999, 9999}};
        for (int[] d : due) {
            TwelveShort x = persons(1);
            x.set(0, TIMES, d[0]);
            x.sits(1);
            Due.is("11: TIMES, from " + d[0], x.told(0, TIMES), d[1]);
        }
        TwelveShort y = persons(1);
        Due.text(y, "ask 100");
        y.set(0, TIMES, 9990);
        y.evenings(20);
        Due.is("12: TIMES", y.told(0, TIMES), 9999);
        Due.is("14: TIMES", y.behind(100, 5), 9999);
    }

    /** Ten that bring 9 each have talked 99990. */
    private static TwelveShort talkative() {
        TwelveShort x = new TwelveShort();
        for (int i = 0; i < 10; i++) {
            x.person(0, 100, 0, 99);
        }
        Due.text(x, "ask 100");
        for (int i = 0; i < 11; i++) {
            x.evenings(100);
        }
        x.evenings(11);
        Due.is("11: TALK", x.house(TALK), 99990);
        return x;
    }

    /** "TALK .. 99999 at most" */
    private static void p11talkUpTo99999() {
        TwelveShort x = talkative();
        x.set(0, 3, 89);
        Due.is("11: 8", x.sits(1), 8);
        Due.is("11: TALK", x.house(TALK), 99998);
        x.set(0, 3, 10);
        Due.is("11: 1", x.sits(1), 1);
        Due.is("11: TALK", x.house(TALK), 99999);
        Due.is("11: 1", x.sits(1), 1);
        Due.is("11: TALK stays", x.house(TALK), 99999);
        Due.is("11: 0", x.sits(0), 0);
        Due.is("11: TALK stays", x.house(TALK), 99999);
        Due.is("11: all, what they bring is told whole", x.sits(1023), 82);
        Due.is("11: TALK stays", x.house(TALK), 99999);
    }

    /** "TALK what it BRINGS more, all together (99999 at most)" */
    private static void p11talk99999AtMostAllTogether() {
        int[][] due = {{0b1, 99999}, {0b11, 99999}, {1023, 99999}};
        for (int[] d : due) {
            TwelveShort x = talkative();
            Due.is("11: what they bring", x.sits(d[0]), 9 * Integer.bitCount(d[0]));
            Due.is("11: TALK", x.house(TALK), d[1]);
        }
        TwelveShort y = talkative();
        y.set(0, 3, 89);
        y.sits(1);
        y.set(0, 3, 20);
        Due.is("11: from 99998 by 2", y.sits(1), 2);
        Due.is("11: TALK", y.house(TALK), 99999);
        TwelveShort z = talkative();
        Due.is("14: TALK behind 0", z.behind(0, TALK), 99990);
        Due.is("14: TALK behind 1", z.behind(1, TALK), 99999);
        Due.is("14: TALK behind 100", z.behind(100, TALK), 99999);
        z.evenings(1);
        Due.is("12: TALK", z.house(TALK), 99999);
    }

    /** "SAT are those that sit." */
    private static void p11satAreThoseThatSit() {
        TwelveShort x = persons(10);
        int[] sets = {0, 1, 512, 513, 1022, 1023};
        for (int set : sets) {
            x.sits(set);
            Due.is("11: SAT", x.house(SAT), set);
        }
    }

    private static void p11noDrawAndNoEvening() {
        TwelveShort x = persons(3);
        x.rule(1, 100);
        x.sits(7);
        Due.is("11: z stays", x.count(7), 1);
        Due.is("11: THE EVENING stays", x.count(1), 0);
        Due.is("11: no fog", x.told(0, STEPS), 50);
    }

    /** "it is in the set, if the draw's rest by 100 is below what it COMES by" */
    private static void p12comesIfTheRestIsBelow() {
        for (int seed = 0; seed < 50; seed++) {
            int rest = Draws.nth(seed, 1, 100);
            for (int more = 0; more <= 1; more++) {
                TwelveShort x = persons(1);
                x.seed(seed);
                x.set(0, ODDS, rest + more);
                x.evenings(1);
                Due.is("12: rest " + rest + ", ODDS " + (rest + more), x.house(SAT), more);
            }
        }
    }

    private static void p12comesBy0AndBy100() {
        int none = Draws.seed(s -> Draws.nth(s, 1, 100) == 0);
        int most = Draws.seed(s -> Draws.nth(s, 1, 100) == 99);
        // Seed, ODDS, and who SAT.
        int[][] due = {{none, 0, 0}, {none, 1, 1}, {most, 99, 0}, {most, 100, 1}};
        for (int[] d : due) {
            TwelveShort x = persons(1);
            x.seed(d[0]);
            x.set(0, ODDS, d[1]);
            x.evenings(1);
            Due.is("12: ODDS " + d[1], x.house(SAT), d[2]);
        }
    }

    /** "PEOPLE by numbers: one draw for each": also for a DOG, and for one that surely comes. */
    private static void p12oneDrawForEach() {
        for (int many = 0; many <= 10; many++) {
            TwelveShort x = new TwelveShort();
            for (int i = 0; i < many; i++) {
                x.person(i % 2 == 0 ? 5 : 0, 100, 0, 0);
            }
            x.evenings(1);
            Draws d = new Draws(1);
            for (int i = 0; i <= many; i++) {
                d.rest(100);
            }
            Due.is("12: z behind an evening of " + many, x.count(7), d.z());
        }
        TwelveShort y = persons(10);
        Draws d = new Draws(1);
        int set = 0;
        for (int p = 0; p < 10; p++) {
            y.set(p, ODDS, 10 * p);
            set |= d.rest(100) < 10 * p ? 1 << p : 0;
        }
        y.rule(0, Integer.bitCount(set) == 10 ? 9 : 10);
        y.evenings(1);
        Due.is("12: SAT", y.house(SAT), set);
    }

    /** COMES of a LAMPLIGHTER by how many SAT at the last dinner, not at this one. */
    private static void p12comesByWhoSatLast() {
        for (int sat = 0; sat <= 10; sat++) {
            TwelveShort x = new TwelveShort();
            x.person(4, 0, 99, 0);
            for (int i = 1; i < 10; i++) {
                x.person(0, 100, 99, 0);
            }
            x.rule(0, 10);
            x.sits((1 << sat) - 1);
            x.seed(Draws.seed(s -> Draws.nth(s, 1, 100) == 9));
            x.set(0, ODDS, 0);
            x.evenings(1);
            Due.is("12: comes by " + sat, x.house(SAT) & 1, sat == 10 ? 1 : 0);
        }
    }

    /** "A draw; if its rest by 100 is below FOG, and there are PEOPLE, two more" */
    private static void p12fogIfTheRestIsBelow() {
        for (int seed = 0; seed < 50; seed++) {
            for (int more = 0; more <= 1; more++) {
                Draws d = new Draws(seed);
                d.rest(100);
                int rest = d.rest(100);
                TwelveShort x = persons(1);
                x.seed(seed);
                x.rule(1, rest + more);
                x.evenings(1);
                int steps = 50;
                if (more == 1) {
                    d.rest(1);
                    steps = d.rest(100);
                }
                Due.is("12: rest " + rest + ", FOG " + (rest + more) + ", STEPS", x.told(0, STEPS), steps);
                Due.is("12: z", x.count(7), d.z());
            }
        }
    }

    /** "FOG 0 .. 100", at its ends */
    private static void p12fog0AndFog100() {
        TwelveShort x = persons(1);
        x.seed(Draws.seed(s -> Draws.nth(s, 2, 100) == 0));
        x.evenings(1);
        Due.is("12: FOG 0, rest 0", x.told(0, STEPS), 50);
        TwelveShort y = persons(1);
        int seed = Draws.seed(s -> Draws.nth(s, 2, 100) == 99 && Draws.nth(s, 4, 100) != 50);
        y.seed(seed);
        y.rule(1, 100);
        y.evenings(1);
        Due.is("12: FOG 100, rest 99", y.told(0, STEPS), Draws.nth(seed, 4, 100));
        TwelveShort w = persons(1);
        w.seed(seed);
        w.rule(1, 99);
        w.evenings(1);
        Due.is("12: FOG 99, rest 99", w.told(0, STEPS), 50);
    }

    /** ".. and there are PEOPLE" */
    private static void p12fogOverNobody() {
        TwelveShort x = new TwelveShort();
        x.rule(1, 100);
        Due.is("12: a hundred evenings of nobody", x.evenings(100), 0);
        Draws d = new Draws(1);
        for (int i = 0; i < 100; i++) {
            d.rest(100);
        }
        Due.is("12: one draw for each evening", x.count(7), d.z());
        Due.is("12: THE EVENING", x.count(1), 100);
        Due.is("12: FAILED, NEVER 3", x.house(FAILED), 0);
        x.rule(0, 0);
        Due.is("12: evenings of nobody, NEVER 0", x.evenings(7), 0);
        Due.is("12: FAILED", x.house(FAILED), 7);
    }

    /** "STEPS of the one that is the rest of the first by how many they are become the rest of the second by 100" */
    private static void p12fogTakesTheFirstAndTheLast() {
        for (int many = 1; many <= 10; many++) {
            for (int end = 0; end <= 1; end++) {
                int n = many;
                int who = end * (many - 1);
                int steps = 99 * end;
                int seed = Draws.seed(s -> Draws.nth(s, n + 2, n) == who && Draws.nth(s, n + 3, 100) == steps);
                TwelveShort x = persons(many);
                x.seed(seed);
                x.rule(1, 100);
                x.evenings(1);
                for (int p = 0; p < many; p++) {
                    Due.is("12: STEPS of " + p + " of " + many, x.told(p, STEPS), p == who ? steps : 50);
                }
            }
        }
    }

    /** "(2) A DINNER .. (3) A draw": whom the fog brings nearer is not sent for that evening. */
    private static void p12fogComesBehindTheDinner() {
        int seed = Draws.seed(s -> Draws.nth(s, 4, 2) == 1 && Draws.nth(s, 5, 100) < 50);
        TwelveShort x = persons(2);
        Due.text(x, "ask 0");
        x.seed(seed);
        x.rule(0, 0);
        x.rule(1, 100);
        x.evenings(1);
        Due.is("12: the first was sent for", x.house(SAT), 1);
        Due.is("12: the second is nearer then", x.told(1, STEPS) < 50 ? 1 : 0, 1);
    }

    /** "n (1 .. 100) EVENINGS" */
    private static void p12oneAndAHundred() {
        TwelveShort x = persons(3);
        Due.is("12: none", x.evenings(0), TwelveShort.BAD);
        x.evenings(1);
        Due.is("12: THE EVENING", x.count(1), 1);
        x.evenings(100);
        Due.is("12: THE EVENING", x.count(1), 101);
        Due.is("12: a hundred and one", x.evenings(101), TwelveShort.BAD);
        Due.is("12: THE EVENING", x.count(1), 101);
        TwelveShort y = persons(3);
        for (int i = 0; i < 101; i++) {
            y.evenings(1);
        }
        for (int what = 0; what < 7; what++) {
            Due.is("12: one by one, house(" + what + ")", y.house(what), x.house(what));
        }
        Due.is("12: one by one, z", y.count(7), x.count(7));
    }

    /** "(no more than up to 9999)" */
    private static void p12theEvening9999AtMost() {
        for (int left = 0; left <= 2; left++) {
            TwelveShort x = persons(1);
            Due.text(x, "ask 0");
            x.rule(0, 0);
            for (int i = 0; i < 99; i++) {
                x.evenings(100);
            }
            x.evenings(99 - left);
            Due.is("12: THE EVENING", x.count(1), 9999 - left);
            x.set(0, TIMES, 0);
            x.keep();
            Due.is("12: two more, if there are two", x.evenings(2), left);
            Due.is("12: THE EVENING", x.count(1), 9999);
            Due.is("12: TIMES", x.told(0, TIMES), left);
            x.back();
            Due.is("12: a hundred more, if there are", x.evenings(100), left);
            Due.is("12: THE EVENING", x.count(1), 9999);
            int z = x.count(7);
            Due.is("12: none more", x.evenings(1), 0);
            Due.is("12: z stays", x.count(7), z);
            Due.is("11: a dinner may still be", x.sits(0), 1);
            Due.is("12: THE EVENING", x.count(1), 9999);
        }
    }

    /** "by how much SENT is more" */
    private static void p12byHowMuchSentIsMore() {
        TwelveShort x = persons(2);
        Due.text(x, "ask 0");
        x.rule(0, 0);
        Due.is("12: all of 100", x.evenings(100), 100);
        Due.is("12: all of 7 more", x.evenings(7), 7);
        Due.is("13: SENT", x.house(SENT), 107);
        x.rule(0, 1);
        Due.is("12: none", x.evenings(50), 0);
        Due.text(x, "ask 100");
        x.rule(0, 2);
        Due.is("12: FAILED is not SENT", x.evenings(50), 0);
        Due.is("13: FAILED", x.house(FAILED), 50);
        Due.is("13: SENT", x.house(SENT), 107);
    }

    /** "6 who of those that did not sit last is NEAREST .. NONE: (what 6) there is no such one." */
    private static void p13nearestOfThoseThatDidNotSit() {
        Due.is("13: of nobody", new TwelveShort().house(6), TwelveShort.NONE);
        for (int many = 1; many <= 10; many++) {
            TwelveShort x = persons(many);
            x.rule(0, 0);
            Due.is("13: none SAT, the first", x.house(6), 0);
            int all = (1 << many) - 1;
            x.sits(all);
            Due.is("13: all SAT", x.house(6), TwelveShort.NONE);
            if (many > 1) {
                x.sits(all >> 1);
                Due.is("13: all SAT but the last", x.house(6), many - 1);
                x.sits(all - 1);
                Due.is("13: all SAT but the first", x.house(6), 0);
            }
            if (many < 10) {
                x.sits(all);
                Due.is("13: a new one has not SAT", x.person(5, 0, 0, 0) == many ? x.house(6) : -1, many);
            }
        }
    }

    /** "4 ODDS of all, together, 5 WIT of all, together" */
    private static void p13sumsOfNobodyAndOfTen() {
        TwelveShort x = new TwelveShort();
        for (int i = 0; i <= 10; i++) {
            Due.is("13: ODDS of " + i, x.house(4), 100 * i);
            Due.is("13: WIT of " + i, x.house(5), 99 * i);
            x.person(i % 6, 100, 99, 99);
        }
        Due.is("13: ODDS of ten", x.house(4), 1000);
        Due.is("13: WIT of ten", x.house(5), 990);
        Due.is("13: what -1", x.house(-1), TwelveShort.BAD);
        Due.is("13: what 7", x.house(7), TwelveShort.BAD);
    }
}
