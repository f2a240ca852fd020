/** Promises 11 to 13. */
public final class EveningsTest {
    private static int z;

    private static int draw() {
        z = z * 1103515245 + 12345;
        return z >>> 8;
    }

    public static void main(String[] args) {
        sits();
        boundsOfADinner();
        evenings();
        fog();
        bounds();
        house();
        Due.finish();
    }

    private static void sits() {
        TwelveShort x = new TwelveShort();
        Due.is("11: nobody sits", x.sits(0), 0);
        Due.is("11: there is no one", x.sits(1), TwelveShort.BAD);
        x.rule(0, 0);
        Due.is("11: nobody, which must never be", x.sits(0), 0);
        Due.is("11: FAILED", x.house(2), 1);
        Due.is("11: SENT", x.house(1), 0);
        x.person(0, 50, 30, 40);
        x.person(1, 50, 15, 40);
        x.person(4, 50, 99, 40);
        x.person(5, 50, 0, 40);
        Due.is("11: sits(-1)", x.sits(-1), TwelveShort.BAD);
        Due.is("11: sits(16)", x.sits(16), TwelveShort.BAD);
        Due.is("11: sits(MIN)", x.sits(Integer.MIN_VALUE), TwelveShort.BAD);
        Due.is("11: the first of two that are nearest", x.sits(0), 4);
        Due.is("11: SAT", x.house(3), 1);
        x.rule(0, 1);
        Due.is("11: the other one is sent for", x.sits(1), 4 + 9);
        Due.is("11: SAT", x.house(3), 3);
        x.rule(0, 2);
        Due.is("11: two, LAMPLIGHTER is nearer than DOG", x.sits(3), 4 + 9 + 5);
        Due.is("11: SAT", x.house(3), 7);
        x.rule(0, 3);
        Due.is("11: three, DOG is left", x.sits(7), 18);
        Due.is("11: SAT", x.house(3), 15);
        x.rule(0, 4);
        Due.is("11: four, none is left", x.sits(15), 18);
        Due.is("11: SENT", x.house(1), 4);
        Due.is("11: FAILED", x.house(2), 2);
        Due.is("11: as many as never, but one", x.sits(14), 14);
        Due.is("11: SENT then", x.house(1), 4);
        Due.is("11: TALK", x.house(0), 4 + 13 + 18 + 18 + 18 + 14);
        int[] times = {5, 5, 4, 3};
        int[] odds = {50 + 10 - 1, 50 - 1 + 10, 50 - 2 + 8, 50 - 3 + 6};
        for (int p = 0; p < 4; p++) {
            Due.is("11: TIMES of " + p, x.told(p, 4), times[p]);
            Due.is("11: ODDS of " + p, x.told(p, 1), odds[p]);
        }
        Due.is("11: THE EVENING stays", x.count(1), 0);
        Due.is("11: z stays", x.count(7), 1);
    }

    private static void boundsOfADinner() {
        TwelveShort x = new TwelveShort();
        x.person(0, 99, 30, 40);
        x.person(0, 1, 30, 40);
        x.set(0, 4, 9998);
        for (int i = 0; i < 3; i++) {
            x.sits(1);
        }
        Due.is("11: ODDS 100 at most", x.told(0, 1), 100);
        Due.is("11: TIMES 9999 at most", x.told(0, 4), 9999);
        Due.is("11: ODDS 0 at least", x.told(1, 1), 0);
        TwelveShort y = new TwelveShort();
        for (int i = 0; i < 10; i++) {
            y.person(3, 100, 0, 99);
        }
        y.rule(0, 0);
        for (int i = 0; i < 357; i++) {
            y.sits(1023);
        }
        Due.is("11: TALK", y.house(0), 99960);
        Due.is("11: what they bring then", y.sits(1023), 280);
        Due.is("11: TALK 99999 at most", y.house(0), 99999);
        Due.is("11: and it stays", y.sits(0), 28);
        Due.is("11: TALK 99999 at most", y.house(0), 99999);
    }

    private static void evenings() {
        TwelveShort x = new TwelveShort();
        Due.is("12: evenings(0)", x.evenings(0), TwelveShort.BAD);
        Due.is("12: evenings(101)", x.evenings(101), TwelveShort.BAD);
        Due.is("12: evenings(-1)", x.evenings(-1), TwelveShort.BAD);
        Due.is("12: z stays", x.count(7), 1);
        z = 1;
        draw();
        Due.is("12: evenings(1) of nobody", x.evenings(1), 0);
        Due.is("12: one draw, for the fog", x.count(7), z);
        Due.is("12: THE EVENING", x.count(1), 1);
        x.person(0, 100, 9, 30);
        x.person(0, 0, 9, 50);
        x.person(5, 100, 9, 50);
        x.rule(0, 1);
        int sent = 0;
        int[] odds = {100, 0};
        int talk = 0;
        for (int i = 0; i < 40; i++) {
            draw();
            boolean comes = draw() % 100 < odds[1];
            draw();
            draw();
            sent += comes ? 0 : 1;
            odds[1] += 2;
            talk += 8;
        }
        Due.is("12: evenings(40)", x.evenings(40), sent);
        Due.is("12: ODDS", x.told(1, 1), 80);
        Due.is("12: TALK", x.house(0), talk);
        Due.is("12: SENT", x.house(1), sent);
        Due.is("12: z", x.count(7), z);
        Due.is("12: THE EVENING", x.count(1), 41);
        Due.is("12: TIMES of the dog", x.told(2, 4), 0);
        Due.is("12: ODDS of the dog", x.told(2, 1), 60);
    }

    /** Where NEVER is 0 and none comes, the one whom the fog has brought nearest is sent for. */
    private static void fog() {
        TwelveShort x = new TwelveShort();
        x.person(5, 0, 50, 0);
        x.person(5, 0, 50, 0);
        x.person(5, 0, 50, 0);
        x.rule(1, 60);
        x.seed(4711);
        z = 4711;
        int[] steps = {50, 50, 50};
        for (int i = 0; i < 90; i++) {
            draw();
            draw();
            draw();
            if (draw() % 100 < 60) {
                int who = draw() % 3;
                steps[who] = draw() % 100;
            }
            x.evenings(1);
            for (int p = 0; p < 3; p++) {
                Due.is("12: STEPS of " + p + " behind " + i, x.told(p, 2), steps[p]);
            }
        }
        Due.is("12: z", x.count(7), z);
        for (int more = 0; more < 2; more++) {
            TwelveShort w = new TwelveShort();
            w.person(5, 0, 50, 0);
            z = 4712;
            w.seed(z);
            draw();
            int rest = draw() % 100;
            w.rule(1, rest + more);
            w.evenings(1);
            draw();
            Due.is("12: below FOG, or not", w.told(0, 2), more == 0 ? 50 : draw() % 100);
        }
        TwelveShort y = new TwelveShort();
        y.rule(1, 100);
        y.evenings(1);
        z = 1;
        draw();
        Due.is("12: fog over nobody, no draws more", y.count(7), z);
    }

    private static void bounds() {
        TwelveShort x = new TwelveShort();
        x.rule(0, 0);
        for (int i = 0; i < 99; i++) {
            x.evenings(100);
        }
        Due.is("12: THE EVENING", x.count(1), 9900);
        Due.is("12: FAILED", x.house(2), 9900);
        x.person(0, 0, 0, 99);
        x.rule(1, 0);
        int more = x.evenings(100);
        Due.is("12: by how much SENT is more", more, x.house(1));
        Due.is("12: THE EVENING 9999 at most", x.count(1), 9999);
        Due.is("12: TIMES", x.told(0, 4), 99);
        int at = x.count(7);
        Due.is("12: no evening more", x.evenings(1), 0);
        Due.is("12: no draw more", x.count(7), at);
        Due.is("14: but thought goes on", x.behind(100, 5), 199);
    }

    private static void house() {
        TwelveShort x = new TwelveShort();
        Due.is("13: house(6) of nobody", x.house(6), TwelveShort.NONE);
        x.person(0, 10, 40, 21);
        x.person(1, 20, 20, 32);
        x.person(3, 30, 21, 43);
        Due.is("13: ODDS of all", x.house(4), 60);
        Due.is("13: WIT of all", x.house(5), 96);
        Due.is("13: THIEF walks 37", x.house(6), 2);
        x.sits(4);
        Due.is("13: 0 and 1 both walk 40", x.house(6), 0);
        Due.is("13: SAT", x.house(3), 4);
        x.sits(5);
        Due.is("13: 1 is left", x.house(6), 1);
        x.rule(0, 10);
        x.sits(7);
        Due.is("13: none is left", x.house(6), TwelveShort.NONE);
        Due.is("13: house(7)", x.house(7), TwelveShort.BAD);
        Due.is("13: house(-1)", x.house(-1), TwelveShort.BAD);
        Due.is("13: TALK", x.house(0), 18 + 20 + 28);
    }
}
