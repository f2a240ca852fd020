import java.util.ArrayList;
import java.util.EnumSet;
import java.util.List;
import java.util.Set;

/**
 * What each call that is not refused changes, and that all else stays: each part of an object is looked at behind the
 * call, in an object of its own, and compared with that of a twin that has not been asked. In the order of the promises.
 */
public final class EffectsTest {
    /**
     * The parts of an object. KINDS: how many PEOPLE there are, too; ODDS to TIMES: of the six that are there first;
     * NUMBERS: how many wait; AS_THE_IMAGE: what a check of them answers.
     */
    enum Part {
        KINDS, ODDS, STEPS, WIT, TIMES, TALK, SENT, FAILED, SAT, EVENING, NEVER, FOG, Z, TEXTS, TAPE, NUMBERS, AS_THE_IMAGE,
        SHEET0, SHEET1, SHEET2, SHEET3, SLOT0, SLOT1, SLOT2, SLOT3, SLOT4, IMAGE
    }

    private static final int PEOPLE = 6;
    private static final Part[] NOTHING_AT_ALL = {};
    private static final Part[] NOW = {Part.KINDS, Part.ODDS, Part.STEPS, Part.WIT, Part.TIMES, Part.TALK, Part.SENT, Part.SAT, Part.EVENING,
        Part.NEVER, Part.FOG, Part.Z, Part.TEXTS};

    /** Six PEOPLE, all SHEETS are there, all SLOTS hold something, and the IMAGE is otherwise in all that it keeps. */
    private static TwelveShort made() {
        TwelveShort x = Scene.BUSY.made();
        x.sheet(3, 1, 3);
        x.mark(3, 0, 7);
        x.mark(3, 1, TwelveShort.NONE);
        x.lay(0, 1, 4);
        return x;
    }

    public static void main(String[] args) {
        p02to10people();
        p11to13evenings();
        p14to21thought();
        p22to26texts();
        p27to31sheets();
        p32to35slots();
        p36to40rows();
        Due.finish();
    }

    private static void p02to10people() {
        changes("2: person(1, 2, 3, 4)", y -> y.person(1, 2, 3, 4), 6, Part.KINDS);
        changes("3: told(4, 5)", y -> y.told(4, 5), made().told(4, 5), NOTHING_AT_ALL);
        changes("4: as(3, 2)", y -> y.as(3, 2), 76, NOTHING_AT_ALL);
        changes("5: turns(0, 5)", y -> y.turns(0, 5), 0, Part.KINDS);
        Part[] parts = {Part.KINDS, Part.ODDS, Part.STEPS, Part.WIT, Part.TIMES};
        for (int what = 1; what <= 4; what++) {
            int at = what;
            changes("6: set(5, " + what + ", 98)", y -> y.set(5, at, 98), made().told(5, what), parts[what]);
        }
        changes("7: rule(0, 8)", y -> y.rule(0, 8), 3, Part.NEVER);
        changes("7: rule(1, 8)", y -> y.rule(1, 8), 30, Part.FOG);
        changes("8: deal(2)", y -> y.deal(2), 2, Part.KINDS, Part.Z);
        changes("8: deal(10)", y -> y.deal(10), 4, Part.KINDS, Part.Z);
        changes("9: seed(5)", y -> y.seed(5), made().count(7), Part.Z);
        changes("10: fewest(0, 1)", y -> y.fewest(0, 1), 0, NOTHING_AT_ALL);
        changes("10: fewest(30, 1) twice", y -> y.fewest(30, 1) - y.fewest(30, 1), 0, NOTHING_AT_ALL);
    }

    private static void p11to13evenings() {
        changes("11: sits(0), nobody brings anything", y -> y.sits(0), 0, Part.ODDS, Part.SAT);
        changes("11: sits(48), a lamplighter and a dog", y -> y.sits(48), 5, Part.ODDS, Part.TIMES, Part.TALK, Part.SAT);
        changes("11: sits(56), three, so one is sent for", y -> {
            int sent = y.house(1);
            y.sits(56);
            return y.house(1) - sent;
        }, 1, Part.ODDS, Part.TIMES, Part.TALK, Part.SENT, Part.SAT);
        changes("11: sits(63), and there is no other", y -> {
            y.rule(0, 6);
            y.sits(63);
            return y.house(2);
        }, 1, Part.ODDS, Part.TIMES, Part.TALK, Part.FAILED, Part.SAT, Part.NEVER);
        changes("12: evenings(100)", y -> {
            int sent = y.house(1);
            return y.evenings(100) - (y.house(1) - sent);
        }, 0, Part.ODDS, Part.STEPS, Part.TIMES, Part.TALK, Part.SENT, Part.SAT, Part.EVENING, Part.Z);
        changes("12: evenings(100) without fog", y -> {
            y.rule(1, 0);
            int sent = y.house(1);
            return y.evenings(100) - (y.house(1) - sent);
        }, 0, Part.ODDS, Part.TIMES, Part.TALK, Part.SENT, Part.SAT, Part.EVENING, Part.FOG, Part.Z);
        for (int what = 0; what <= 6; what++) {
            int at = what;
            changes("13: house(" + what + ") twice", y -> y.house(at) - y.house(at), 0, NOTHING_AT_ALL);
        }
    }

    /** What is only thought changes nothing, and is the same again. */
    private static void p14to21thought() {
        Scene.Call[] calls = {y -> y.behind(100, 0), y -> y.behind(7, 10), y -> y.meets(0, 5), y -> y.meets(1, 0), y -> y.door(60, 0),
            y -> y.door(1, 1), y -> y.never(60, 0), y -> y.never(1, 1), y -> y.becomes(5, 60, 0), y -> y.becomes(0, 1, 1),
            y -> y.like(1, 0), y -> y.like(0, 1), y -> y.like(2, 0), y -> y.fee(), y -> y.fine(5)};
        for (int i = 0; i < calls.length; i++) {
            Scene.Call call = calls[i];
            changes("14 to 21: call " + i + " twice", y -> call.on(y) - call.on(y), 0, NOTHING_AT_ALL);
        }
    }

    private static void p22to26texts() {
        changes("22: feed(1, 2, 3)", y -> y.feed(1, 2, 3), 28, Part.TAPE);
        changes("23: trim(15)", y -> y.trim(15), 15, Part.TAPE);
        changes("23: trim(16)", y -> y.trim(16), 16, NOTHING_AT_ALL);
        changes("23: trim(0)", y -> y.trim(0), 0, Part.TAPE);
        changes("24: text()", y -> y.text(), 3, Part.TAPE, Part.TEXTS);
        changes("25: textTold(2, 1)", y -> y.textTold(2, 1), 3, NOTHING_AT_ALL);
        changes("26: why(0)", y -> y.why(0), 0, NOTHING_AT_ALL);
    }

    private static void p27to31sheets() {
        Part[] sheets = {Part.SHEET0, Part.SHEET1, Part.SHEET2, Part.SHEET3};
        for (int sheet = 0; sheet < 4; sheet++) {
            int s = sheet;
            changes("27: sheet(" + s + ", 1, 9)", y -> y.sheet(s, 1, 9), 9, sheets[s]);
            changes("27: sheet(" + s + ", 0, 3)", y -> y.sheet(s, 0, 3), 3, sheets[s]);
            changes("27: sheet(" + s + ", -1, 9)", y -> y.sheet(s, -1, 9), 0, sheets[s]);
        }
        changes("28: mark(0, 4, 9)", y -> y.mark(0, 4, 9), 1, Part.SHEET0);
        changes("28: mark(1, 3, 9)", y -> y.mark(1, 3, 9), 1, Part.SHEET1);
        changes("28: mark(1, 4, NONE)", y -> y.mark(1, 4, TwelveShort.NONE), 1, Part.SHEET1);
        changes("29: pour(0)", y -> y.pour(0) > 0 ? 1 : 0, 1, Part.ODDS);
        changes("29: pour(1)", y -> y.pour(1) > 0 ? 1 : 0, 1, Part.ODDS);
        changes("29: pour(2)", y -> y.pour(2), 0, NOTHING_AT_ALL);
        changes("30: reads(1) twice", y -> y.reads(1) - y.reads(1), 0, NOTHING_AT_ALL);
        changes("31: copy(1, 0, 1, 5, 3)", y -> y.copy(1, 0, 1, 5, 3), 3, Part.SHEET1);
        changes("31: copy(0, 0, 0, 1, 4)", y -> y.copy(0, 0, 0, 1, 4), 4, Part.SHEET0);
        changes("31: copy(0, 5, 2, 0, 0)", y -> y.copy(0, 5, 2, 0, 0), 0, NOTHING_AT_ALL);
        changes("31: copy(1, 3, 3, 0, 2)", y -> y.copy(1, 3, 3, 0, 2), 2, Part.SHEET3);
        changes("31: copy(3, 0, 1, 22, 2)", y -> y.copy(3, 0, 1, 22, 2), 2, Part.SHEET1);
    }

    private static void p32to35slots() {
        Part[] slots = {Part.SLOT0, Part.SLOT1, Part.SLOT2, Part.SLOT3, Part.SLOT4};
        int[] held = {1, 1, 2, 3, 2};
        for (int slot = 0; slot < 5; slot++) {
            int s = slot;
            changes("32: lay(" + s + ", 0, 9)", y -> y.lay(s, 0, 9), held[s], slots[s]);
            changes("32: lay(" + s + ", 1, 5)", y -> y.lay(s, 1, 5), held[s], slots[s]);
            changes("32: lay(" + s + ", 2, 2)", y -> y.lay(s, 2, 2), held[s], slots[s]);
            changes("32: lay(" + s + ", 3, 77)", y -> y.lay(s, 3, 77), held[s], slots[s]);
        }
        changes("33: ask(1, 1) twice", y -> y.ask(1, 1) - y.ask(1, 1), 0, NOTHING_AT_ALL);
        changes("34: item(2, 23)", y -> y.item(2, 23), -99999, NOTHING_AT_ALL);
        changes("35: rest(3, 5)", y -> y.rest(3, 5), -2, NOTHING_AT_ALL);
    }

    private static void p36to40rows() {
        changes("36: tell(3)", y -> y.tell(3), 7, Part.NUMBERS, Part.AS_THE_IMAGE);
        changes("37: check(3)", y -> y.check(3), 0, Part.NUMBERS, Part.AS_THE_IMAGE);
        changes("37: check(2)", y -> y.check(2), 5, Part.NUMBERS, Part.AS_THE_IMAGE);
        changes("38: keep()", y -> y.keep(), 6, Part.IMAGE, Part.AS_THE_IMAGE);
        changes("39: back()", y -> y.back(), 4, NOW);
        changes("39: back() twice", y -> y.back() + y.back(), 8, NOW);
        for (int what = 0; what < 8; what++) {
            int at = what;
            changes("40: count(" + what + ") twice", y -> y.count(at) - y.count(at), 0, NOTHING_AT_ALL);
        }
    }

    /** The call answers that; these parts are otherwise behind it, and all others are as they were. */
    private static void changes(String name, Scene.Call call, int want, Part... parts) {
        Set<Part> due = EnumSet.noneOf(Part.class);
        due.addAll(List.of(parts));
        for (Part part : Part.values()) {
            TwelveShort asked = made();
            Due.is(name, call.on(asked), want);
            boolean same = seen(part, asked).equals(seen(part, made()));
            Due.is(name + ", then " + part + " is otherwise", same ? 0 : 1, due.contains(part) ? 1 : 0);
        }
    }

    private static List<Integer> seen(Part part, TwelveShort x) {
        List<Integer> all = new ArrayList<>();
        switch (part) {
            case KINDS -> seeKinds(x, all);
            case ODDS, STEPS, WIT, TIMES -> seeOfSix(x, part.ordinal(), all);
            case TALK, SENT, FAILED, SAT -> all.add(x.house(part.ordinal() - Part.TALK.ordinal()));
            case EVENING, NEVER, FOG -> all.add(x.count(1 + part.ordinal() - Part.EVENING.ordinal()));
            case Z -> all.add(x.count(7));
            case TEXTS -> seeTexts(x, all);
            case TAPE -> seeTape(x, all);
            case NUMBERS -> all.add(x.count(5));
            case AS_THE_IMAGE -> all.add(x.check(3));
            case IMAGE -> seeImage(x, all);
            case SHEET0, SHEET1, SHEET2, SHEET3 -> seeSheet(x, part.ordinal() - Part.SHEET0.ordinal(), all);
            default -> seeSlot(x, part.ordinal() - Part.SLOT0.ordinal(), all);
        }
        return all;
    }

    private static void seeKinds(TwelveShort x, List<Integer> all) {
        int people = x.count(0);
        for (int p = 0; p < people; p++) {
            all.add(x.told(p, 0));
        }
    }

    private static void seeOfSix(TwelveShort x, int what, List<Integer> all) {
        for (int p = 0; p < PEOPLE; p++) {
            all.add(x.told(p, what));
        }
    }

    /** What the texts give is seen by one that is always the same, with nobody at the table. */
    private static void seeTexts(TwelveShort x, List<Integer> all) {
        int texts = x.count(4);
        all.add(texts);
        for (int key = 0; key < 3; key++) {
            all.add(x.why(key));
        }
        for (int text = 0; text < texts; text++) {
            all.add(x.textTold(text, 0));
            all.add(x.textTold(text, 1));
        }
        x.rule(0, 10);
        x.sits(0);
        x.turns(0, 0);
        int[] values = {0, 31, 17, 56, 3};
        for (int what = 1; what <= 4; what++) {
            x.set(0, what, values[what]);
        }
        all.add(x.told(0, 5));
        all.add(x.fine(0));
    }

    private static void seeTape(TwelveShort x, List<Integer> all) {
        all.add(x.count(6));
        int text = x.text();
        all.add(text < 0 ? text : x.textTold(text, 0));
        all.add(text < 0 ? text : x.textTold(text, 1));
    }

    private static void seeImage(TwelveShort x, List<Integer> all) {
        all.add(x.back());
        all.addAll(seen(Part.FAILED, x));
        for (Part part : NOW) {
            all.addAll(seen(part, x));
        }
    }

    private static void seeSheet(TwelveShort x, int sheet, List<Integer> all) {
        x.lay(0, 0, 0);
        all.add(x.lay(0, 2, sheet));
        // Whether it is of shorts or of floats.
        all.add(x.mark(sheet, 0, TwelveShort.NONE));
        seeSlot(x, 0, all);
    }

    private static void seeSlot(TwelveShort x, int slot, List<Integer> all) {
        for (int kind = 0; kind < 6; kind++) {
            all.add(x.ask(slot, kind));
        }
        for (int place = 0; place <= 24; place++) {
            all.add(x.item(slot, place));
        }
        all.add(x.rest(slot, Integer.MIN_VALUE));
        all.add(x.rest(slot, 1000));
    }
}
