import java.util.Random;

/** Runs of 512 calls by lot (always the same lot), each answer compared with that of the model. */
public final class RandomRunsTest {
    private static final int RUNS = 400, CALLS = 512;
    private static Random lot;

    public static void main(String[] args) {
        for (int run = 0; run < RUNS; run++) {
            lot = new Random(run);
            run(run);
        }
        Due.finish();
    }

    private static void run(int run) {
        TwelveShort x = new TwelveShort();
        Model m = new Model();
        boolean wild = run % 4 == 0;
        if (!wild) {
            int people = lot.nextInt(11);
            for (int i = 0; i < people; i++) {
                call(x, m, 0, new int[] {lot.nextInt(6), lot.nextInt(101), lot.nextInt(100), lot.nextInt(100), 0});
            }
        }
        for (int i = m.now.folk.size(); i < CALLS; i++) {
            int which = lot.nextInt(39);
            if (lot.nextInt(6) == 0) {
                i += text(x, m);
                continue;
            }
            // Without this, the tape would be full nearly always, and the dear calls would take too long.
            if (which == 20 && lot.nextInt(4) != 0 || (which >= 12 && which <= 17) && lot.nextInt(4) != 0) {
                which = lot.nextInt(12);
            }
            int[] a = new int[5];
            for (int j = 0; j < a.length; j++) {
                a[j] = argument(which, j, wild);
            }
            call(x, m, which, a);
        }
    }

    private static int argument(int which, int j, boolean wild) {
        int way = lot.nextInt(wild ? 12 : 20);
        if (way == 0) {
            int[] odd = {-1, Integer.MIN_VALUE, Integer.MAX_VALUE, TwelveShort.NONE, -100000, 100000, 32768, -32769};
            return odd[lot.nextInt(odd.length)];
        }
        if (way == 1) {
            return lot.nextInt();
        }
        int[][] most = {
            {6, 101, 100, 100, 1}, {10, 9}, {10, 6}, {10, 6}, {10, 5, 101}, {2, 11}, {4}, {1 << 30}, {80, 2}, {1024}, {101},
            {7}, {101, 16}, {10, 10}, {61, 2}, {61, 2}, {10, 61, 2}, {4, 2}, {1}, {10}, {256, 256, 256}, {97}, {1},
            {14, 2}, {3}, {4, 2, 25}, {4, 24, 120}, {4}, {4}, {4, 12, 4, 12, 12}, {5, 4, 10}, {5, 6}, {5, 24}, {5, 40},
            {1000}, {30}, {1}, {1}, {8},
        };
        int[] row = most[which];
        int top = j < row.length ? row[j] : 1;
        int v = lot.nextInt(top + (way == 2 ? 1 : 0));
        return which == 25 && j == 1 && lot.nextInt(12) == 0 ? -1 : v;
    }

    private static int text(TwelveShort x, Model m) {
        StringBuilder s = new StringBuilder();
        String[] keys = {"ask", "fee", "fine"};
        int key = lot.nextInt(3);
        blanks(s);
        s.append(keys[key]).append(lot.nextInt(20) == 0 ? "" : " ");
        expression(s, new String[] {"owtn", "sf", "ow"}[key], lot.nextInt(7));
        blanks(s);
        for (int i = lot.nextInt(3) == 0 ? 1 + lot.nextInt(2) : 0; i > 0 && s.length() > 0; i--) {
            int at = lot.nextInt(s.length());
            String signs = "owtnsf019 ()!!&|<=>+-*/xA";
            char c = lot.nextInt(30) == 0 ? (char) lot.nextInt(256) : signs.charAt(lot.nextInt(signs.length()));
            int way = lot.nextInt(3);
            if (way == 0) {
                s.setCharAt(at, c);
            } else if (way == 1) {
                s.insert(at, c);
            } else {
                s.deleteCharAt(at);
            }
        }
        String t = s.length() > 96 ? s.substring(0, 96) : s.toString();
        same(x.trim(0), m.trim(0), "trim", new int[] {0});
        int calls = 1;
        for (int from = 0; from < t.length(); from += 12) {
            int[] a = new int[3];
            for (int i = 0; i < 12; i++) {
                a[i / 4] = a[i / 4] << 8 | (from + i < t.length() ? t.charAt(from + i) : lot.nextInt(256));
            }
            call(x, m, 20, a);
            calls++;
        }
        call(x, m, 21, new int[] {t.length()});
        same(x.text(), m.text(), "text '" + t + "'", new int[0]);
        same(x.fee(), m.fee(), "fee '" + t + "'", new int[0]);
        return calls + 2;
    }

    private static void blanks(StringBuilder s) {
        for (int i = lot.nextInt(6) == 0 ? lot.nextInt(3) : 0; i > 0; i--) {
            s.append(' ');
        }
    }

    private static void expression(StringBuilder s, String names, int deep) {
        int pieces = 1 + lot.nextInt(4);
        boolean compared = false;
        for (int i = 0; i < pieces; i++) {
            if (i > 0) {
                char sign = "|&<=>+-*/+-*/".charAt(lot.nextInt(13));
                if ("<=>".indexOf(sign) >= 0) {
                    sign = compared ? '&' : sign;
                }
                compared = "<=>".indexOf(sign) >= 0 || compared && "&|".indexOf(sign) < 0;
                blanks(s);
                s.append(sign);
                blanks(s);
            }
            piece(s, names, deep);
        }
    }

    private static void piece(StringBuilder s, String names, int deep) {
        int way = lot.nextInt(5);
        if (way == 0) {
            s.append(lot.nextInt(lot.nextInt(4) == 0 ? 12000 : 110));
        } else if (way == 1 && deep > 0 && s.length() < 90) {
            int many = lot.nextInt(8) == 0 ? lot.nextInt(9) : 1;
            s.append("!".repeat(many));
            piece(s, names, deep - 1);
        } else if (way == 2 && deep > 0 && s.length() < 80) {
            int many = lot.nextInt(8) == 0 ? lot.nextInt(9) : 1;
            s.append("(".repeat(many));
            expression(s, names, deep - 1);
            s.append(")".repeat(many));
        } else {
            s.append(names.charAt(lot.nextInt(names.length())));
        }
    }

    private static void same(int got, int want, String name, int[] a) {
        StringBuilder call = new StringBuilder(name);
        for (int v : a) {
            call.append(' ').append(v);
        }
        Due.is(call.toString(), got, want);
    }

    private static void call(TwelveShort x, Model m, int which, int[] a) {
        if (which < 20) {
            people(x, m, which, a);
        } else {
            things(x, m, which, a);
        }
    }

    private static void people(TwelveShort x, Model m, int which, int[] a) {
        switch (which) {
            case 0 -> same(x.person(a[0], a[1], a[2], a[3]), m.person(a[0], a[1], a[2], a[3]), "person", a);
            case 1 -> same(x.told(a[0], a[1]), m.told(a[0], a[1]), "told", a);
            case 2 -> same(x.as(a[0], a[1]), m.as(a[0], a[1]), "as", a);
            case 3 -> same(x.turns(a[0], a[1]), m.turns(a[0], a[1]), "turns", a);
            case 4 -> same(x.set(a[0], a[1], a[2]), m.set(a[0], a[1], a[2]), "set", a);
            case 5 -> same(x.rule(a[0], a[1]), m.rule(a[0], a[1]), "rule", a);
            case 6 -> same(x.deal(a[0]), m.deal(a[0]), "deal", a);
            case 7 -> same(x.seed(a[0]), m.seed(a[0]), "seed", a);
            case 8 -> same(x.fewest(a[0], a[1]), m.fewest(a[0], a[1]), "fewest", a);
            case 9 -> same(x.sits(a[0]), m.sits(a[0]), "sits", a);
            case 10 -> same(x.evenings(a[0]), m.evenings(a[0]), "evenings", a);
            case 11 -> same(x.house(a[0]), m.house(a[0]), "house", a);
            case 12 -> same(x.behind(a[0], a[1]), m.behind(a[0], a[1]), "behind", a);
            case 13 -> same(x.meets(a[0], a[1]), m.meets(a[0], a[1]), "meets", a);
            case 14 -> same(x.door(a[0], a[1]), m.door(a[0], a[1]), "door", a);
            case 15 -> same(x.never(a[0], a[1]), m.never(a[0], a[1]), "never", a);
            case 16 -> same(x.becomes(a[0], a[1], a[2]), m.becomes(a[0], a[1], a[2]), "becomes", a);
            case 17 -> same(x.like(a[0], a[1]), m.like(a[0], a[1]), "like", a);
            case 18 -> same(x.fee(), m.fee(), "fee", a);
            default -> same(x.fine(a[0]), m.fine(a[0]), "fine", a);
        }
    }

    private static void things(TwelveShort x, Model m, int which, int[] a) {
        switch (which) {
            case 20 -> same(x.feed(a[0], a[1], a[2]), m.feed(a[0], a[1], a[2]), "feed", a);
            case 21 -> same(x.trim(a[0]), m.trim(a[0]), "trim", a);
            case 22 -> same(x.text(), m.text(), "text", a);
            case 23 -> same(x.textTold(a[0], a[1]), m.textTold(a[0], a[1]), "textTold", a);
            case 24 -> same(x.why(a[0]), m.why(a[0]), "why", a);
            case 25 -> same(x.sheet(a[0], a[1], a[2]), m.sheet(a[0], a[1], a[2]), "sheet", a);
            case 26 -> same(x.mark(a[0], a[1], a[2]), m.mark(a[0], a[1], a[2]), "mark", a);
            case 27 -> same(x.pour(a[0]), m.pour(a[0]), "pour", a);
            case 28 -> same(x.reads(a[0]), m.reads(a[0]), "reads", a);
            case 29 -> same(x.copy(a[0], a[1], a[2], a[3], a[4]), m.copy(a[0], a[1], a[2], a[3], a[4]), "copy", a);
            case 30 -> same(x.lay(a[0], a[1], a[2]), m.lay(a[0], a[1], a[2]), "lay", a);
            case 31 -> same(x.ask(a[0], a[1]), m.ask(a[0], a[1]), "ask", a);
            case 32 -> same(x.item(a[0], a[1]), m.item(a[0], a[1]), "item", a);
            case 33 -> same(x.rest(a[0], a[1]), m.rest(a[0], a[1]), "rest", a);
            case 34 -> same(x.tell(a[0]), m.tell(a[0]), "tell", a);
            case 35 -> check(x, m, a);
            case 36 -> same(x.keep(), m.keep(), "keep", a);
            case 37 -> same(x.back(), m.back(), "back", a);
            default -> same(x.count(a[0]), m.count(a[0]), "count", a);
        }
    }

    /** Mostly with the right numbers, or all of them but one, ahead of it. */
    private static void check(TwelveShort x, Model m, int[] a) {
        if (m.image != null && lot.nextInt(4) != 0) {
            same(x.check(1), m.check(1), "check", a);
            Model.State s = m.image.twin();
            int rounds = lot.nextInt(5) == 0 ? lot.nextInt(30) : a[0];
            int wrong = lot.nextInt(3) == 0 ? lot.nextInt(60) : -1;
            for (int i = 0; i < rounds && i < 30 && s.evening < 9999; i++) {
                s.evening();
                int talk = s.talk + (wrong == 2 * i ? 1 : 0);
                int odds = s.sum(1) + (wrong == 2 * i + 1 ? 1 : 0);
                same(x.tell(talk), m.tell(talk), "tell", a);
                same(x.tell(odds), m.tell(odds), "tell", a);
            }
        }
        same(x.check(a[0]), m.check(a[0]), "check", a);
    }
}
