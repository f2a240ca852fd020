import java.util.ArrayList;
import java.util.List;

/**
 * Objects in a known state, made anew for each look at them: whether a refused call answers what is due,
 * and whether behind it all is as in a twin that has not been asked.
 */
enum Scene {
    /** As it is made. */
    NEW,
    /** Six PEOPLE, one of each KIND; some of everything, an IMAGE that differs, a right TEXT and right numbers told. */
    BUSY,
    /** As much of everything as there may be. */
    BRIM;

    interface Call {
        int on(TwelveShort x);
    }

    private static final int VIEWS = 3;
    private static final int[] BUSY_NUMBERS = numbers(BUSY, 6);
    private static final int[] BRIM_NUMBERS = numbers(BRIM, 60);

    /** The call is refused with that answer, and all is as it was. */
    void refuses(String name, int want, Call call) {
        refuses(name, want, call, true, true);
    }

    /** The call is refused with that answer, THE TAPE is used up, and all else is as it was. */
    void refusesOverTheTape(String name, int want, Call call) {
        refuses(name, want, call, false, true);
    }

    /** The call is refused with that answer, no number waits, and all else is as it was. */
    void refusesOverTheNumbers(String name, int want, Call call) {
        refuses(name, want, call, true, false);
    }

    /** The call answers that, and all is as it was: for what only tells, or is only thought. */
    void tells(String name, int want, Call call) {
        refuses(name, want, call, true, true);
    }

    private void refuses(String name, int want, Call call, boolean tape, boolean numbers) {
        for (int view = 0; view < VIEWS; view++) {
            TwelveShort asked = made(true, true);
            Due.is(name + " (" + this + ")", call.on(asked), want);
            same(name + " (" + this + "), then", seen(view, asked), seen(view, made(tape, numbers)));
        }
    }

    private static void same(String name, List<Integer> got, List<Integer> want) {
        int i = 0;
        while (i < want.size() && i < got.size() && got.get(i).equals(want.get(i))) {
            i++;
        }
        Due.is(name + ", of what is seen it is as it was up to", i, Math.max(got.size(), want.size()));
    }

    TwelveShort made() {
        return made(true, true);
    }

    private TwelveShort made(boolean tape, boolean numbers) {
        TwelveShort x = new TwelveShort();
        if (this == BUSY) {
            busyImage(x);
            x.keep();
            busyNow(x);
            tellAll(x, numbers ? BUSY_NUMBERS : new int[0]);
            feed(x, tape ? "fine w*1234+o-77" : "");
        } else if (this == BRIM) {
            brimImage(x);
            x.keep();
            brimNow(x);
            tellAll(x, numbers ? BRIM_NUMBERS : new int[0]);
            feed(x, tape ? brimTape() : "");
        }
        return x;
    }

    private static void busyImage(TwelveShort x) {
        x.seed(-77);
        for (int kind = 0; kind < 4; kind++) {
            x.person(kind, 40 + 10 * kind, 30 - 7 * kind, 25 + 17 * kind);
        }
        x.rule(0, 2);
        x.rule(1, 25);
        text(x, "ask o+t");
        text(x, "fee s*3-f");
        x.evenings(5);
    }

    private static void busyNow(TwelveShort x) {
        x.person(4, 66, 61, 48);
        x.person(5, 15, 3, 99);
        x.rule(0, 3);
        x.rule(1, 30);
        text(x, "fine (o>50)*w");
        x.set(1, 4, 17);
        x.evenings(7);
        x.sheet(0, 0, 5);
        x.mark(0, 1, 70000);
        x.mark(0, 4, -3);
        x.sheet(1, 1, 24);
        x.mark(1, 0, 12);
        x.mark(1, 3, TwelveShort.NONE);
        x.mark(1, 23, -99999);
        x.sheet(2, 0, 0);
        x.lay(1, 1, 3);
        x.turns(3, 2);
        x.lay(2, 2, 1);
        x.mark(1, 0, 13);
        x.lay(3, 3, -17);
        x.lay(4, 2, 0);
    }

    private static void brimImage(TwelveShort x) {
        x.seed(12);
        x.deal(9);
        x.rule(0, 9);
        for (int i = 0; i < 5; i++) {
            text(x, "fee s+" + i);
        }
        x.evenings(100);
    }

    private static void brimNow(TwelveShort x) {
        x.person(3, 100, 99, 99);
        x.rule(0, 10);
        x.rule(1, 100);
        x.set(9, 4, 9999);
        String[] keys = {"ask o+", "fee f+", "fine w+"};
        for (int i = 0; i < 9; i++) {
            text(x, keys[i % 3] + i);
        }
        for (int i = 0; i < 99; i++) {
            x.evenings(100);
        }
        for (int sheet = 0; sheet < 4; sheet++) {
            x.sheet(sheet, sheet % 2, 24);
            x.mark(sheet, 0, x.told(0, 2));
            x.mark(sheet, 23, sheet % 2 == 0 ? -32768 : TwelveShort.NONE);
        }
        x.lay(0, 1, 9);
        x.lay(1, 2, 0);
        x.lay(2, 2, 3);
        x.lay(3, 3, Integer.MIN_VALUE);
        x.lay(4, 3, Integer.MAX_VALUE);
    }

    /** 96 bytes. */
    private static String brimTape() {
        StringBuilder s = new StringBuilder("fine w");
        while (s.length() < 96) {
            s.append("+o");
        }
        return s.toString();
    }

    /** THE EVENINGS TOLD by the scene's IMAGE, as the evenings themselves go. */
    private static int[] numbers(Scene scene, int many) {
        TwelveShort x = new TwelveShort();
        if (scene == BUSY) {
            busyImage(x);
        } else {
            brimImage(x);
        }
        int[] numbers = new int[many];
        for (int i = 0; i < many; i += 2) {
            x.evenings(1);
            numbers[i] = x.house(0);
            numbers[i + 1] = x.house(4);
        }
        return numbers;
    }

    private static void tellAll(TwelveShort x, int[] numbers) {
        for (int v : numbers) {
            x.tell(v);
        }
    }

    private static void feed(TwelveShort x, String text) {
        if (!text.isEmpty()) {
            Due.feed(x, text);
        }
    }

    private static void text(TwelveShort x, String text) {
        Due.text(x, text);
    }

    /** What an object shows; each view uses it up in its own way, and all calls of one object are fewer than 512. */
    private static List<Integer> seen(int view, TwelveShort x) {
        List<Integer> all = new ArrayList<>();
        if (view == 0) {
            seePeople(x, all);
            seeTexts(x, all);
            seeThoughts(x, all);
        } else if (view == 1) {
            seeSlots(x, all);
            seeSheets(x, all);
        } else {
            seeRows(x, all);
        }
        return all;
    }

    private static void seePeople(TwelveShort x, List<Integer> all) {
        for (int what = 0; what < 8; what++) {
            all.add(x.count(what));
        }
        for (int what = 0; what < 7; what++) {
            all.add(x.house(what));
        }
        for (int p = 0; p < x.count(0); p++) {
            for (int what = 0; what < 6; what++) {
                all.add(x.told(p, what));
            }
        }
    }

    private static void seeTexts(TwelveShort x, List<Integer> all) {
        for (int key = 0; key < 3; key++) {
            all.add(x.why(key));
        }
        for (int t = 0; t < x.count(4); t++) {
            all.add(x.textTold(t, 0));
            all.add(x.textTold(t, 1));
        }
        all.add(x.fee());
        all.add(x.fine(0));
        all.add(x.fine(x.count(0) - 1));
    }

    private static void seeThoughts(TwelveShort x, List<Integer> all) {
        for (int what = 0; what < 5; what++) {
            all.add(x.behind(9, what));
        }
        all.add(x.meets(0, 1));
        all.add(x.door(3, 1));
        all.add(x.never(3, 1));
        all.add(x.becomes(0, 3, 1));
        all.add(x.fewest(20, 0));
    }

    private static void seeSlots(TwelveShort x, List<Integer> all) {
        for (int slot = 0; slot < 5; slot++) {
            for (int kind = 0; kind < 6; kind++) {
                all.add(x.ask(slot, kind));
            }
            all.add(x.rest(slot, Integer.MIN_VALUE));
            all.add(x.rest(slot, Integer.MAX_VALUE));
            seeRow(x, slot, all);
        }
    }

    private static void seeRow(TwelveShort x, int slot, List<Integer> all) {
        int place = 0;
        int v;
        do {
            v = x.item(slot, place);
            all.add(v);
            place++;
        } while (v != TwelveShort.NOTHING && v != TwelveShort.INDEX && (place > 1 || v != TwelveShort.KIND));
    }

    private static void seeSheets(TwelveShort x, List<Integer> all) {
        for (int sheet = 0; sheet < 4; sheet++) {
            x.lay(0, 0, 0);
            // Of a MISSING one nothing is laid, and nothing is seen.
            all.add(x.lay(0, 2, sheet));
            seeRow(x, 0, all);
            all.add(x.copy(sheet, 0, sheet, 0, 0));
        }
    }

    private static void seeRows(TwelveShort x, List<Integer> all) {
        int waiting = x.count(5);
        all.add(waiting);
        all.add(x.check(Math.max(1, waiting / 2)));
        all.add(x.count(6));
        all.add(x.back());
        seePeople(x, all);
        seeTexts(x, all);
        all.add(x.text());
        seeTexts(x, all);
    }
}
