import java.util.ArrayList;
import java.util.Arrays;
import java.util.List;
import java.util.function.IntUnaryOperator;

/** The document once more, in another way, and with the library: what random runs are compared with. */
final class Model {
    static final int BAD = -1000000001, NO = -1000000002, FULL = -1000000003, NONE = -1000000005;
    static final int NOTHING = -1000000011, KIND = -1000000012, INDEX = -1000000013, SIZE = -1000000014;

    /** The KINDS, each under the one that it extends. */
    static class Person {
        int comes(Folk f, int plain, int sat) { return plain; }
        int walks(Folk f) { return f.v[2]; }
        int brings(Folk f) { return f.v[3] / 10; }
        int worth(Folk f) { return f.v[3]; }
    }

    static class Poet extends Person {
        int comes(Folk f, int plain, int sat) { return super.comes(f, plain, sat) / 2; }
        int walks(Folk f) { return 2 * super.walks(f); }
        int brings(Folk f) { return super.brings(f) + 5; }
        int worth(Folk f) { return super.worth(f) + f.v[4]; }
    }

    static class Neighbour extends Person {
        int comes(Folk f, int plain, int sat) { return f.v[2] > 60 ? 0 : super.comes(f, plain, sat); }
        int walks(Folk f) { return Math.max(0, super.walks(f) - 10); }
        int brings(Folk f) { return Math.max(0, super.brings(f) - 1); }
        int worth(Folk f) { return 99 - f.v[2]; }
    }

    static class Thief extends Poet {
        int comes(Folk f, int plain, int sat) { return Math.min(100, super.comes(f, plain, sat) + 10); }
        int walks(Folk f) { return Math.max(0, super.walks(f) - 5); }
        int brings(Folk f) { return 2 * super.brings(f); }
        int worth(Folk f) { return super.worth(f) / 2; }
    }

    static class Lamplighter extends Neighbour {
        int comes(Folk f, int plain, int sat) { return Math.min(100, super.comes(f, plain, sat) + sat); }
        int walks(Folk f) { return super.walks(f) / 2; }
        int brings(Folk f) { return super.brings(f) + 2; }
        int worth(Folk f) { return super.worth(f) + 7; }
    }

    static class Dog extends Person {
        int comes(Folk f, int plain, int sat) { return 0; }
        int walks(Folk f) { return 99; }
        int brings(Folk f) { return 0; }
        int worth(Folk f) { return f.v[1]; }
    }

    static final Person[] KINDS = {new Person(), new Poet(), new Neighbour(), new Thief(), new Lamplighter(), new Dog()};

    /** KIND, ODDS, STEPS, WIT, TIMES. */
    static final class Folk {
        final int[] v;
        Folk(int... v) { this.v = v; }
        Person kind() { return KINDS[v[0]]; }
        boolean isOf(int kind) { return KINDS[kind].getClass().isInstance(kind()); }
    }

    static final class State {
        List<Folk> folk = new ArrayList<>();
        List<String> texts = new ArrayList<>();
        int never = 3, fog, sat, talk, sent, failed, evening, z = 1;

        State twin() {
            State s = new State();
            for (Folk f : folk) {
                s.folk.add(new Folk(f.v.clone()));
            }
            s.texts.addAll(texts);
            s.never = never; s.fog = fog; s.sat = sat; s.talk = talk; s.sent = sent; s.failed = failed;
            s.evening = evening; s.z = z;
            return s;
        }

        int draw(int by) {
            z = 1103515245 * z + 12345;
            return (z >>> 8) % by;
        }

        int textOf(String key) {
            for (int i = texts.size() - 1; i >= 0; i--) {
                if (texts.get(i).strip().startsWith(key)) {
                    return i;
                }
            }
            return -1;
        }

        int comes(Folk f) {
            int n = Integer.bitCount(sat);
            int at = textOf("ask");
            int plain = at < 0 ? f.v[1] : Texts.value(texts.get(at), c -> c == 'o' ? f.v[1] : c == 'w' ? f.v[3] : c == 't' ? f.v[4] : n);
            return f.kind().comes(f, Math.max(0, Math.min(100, plain)), n);
        }

        int nearest(int but) {
            int best = -1;
            for (int i = folk.size() - 1; i >= 0; i--) {
                boolean other = (but & 1 << i) == 0;
                if (other && (best < 0 || folk.get(i).kind().walks(folk.get(i)) <= folk.get(best).kind().walks(folk.get(best)))) {
                    best = i;
                }
            }
            return best;
        }

        int dine(int set) {
            if (Integer.bitCount(set) == never) {
                int who = nearest(set);
                if (who < 0) {
                    failed++;
                } else {
                    sent++;
                    set |= 1 << who;
                }
            }
            int sum = 0;
            for (int i = 0; i < folk.size(); i++) {
                Folk f = folk.get(i);
                boolean sits = (set & 1 << i) != 0;
                f.v[1] = sits ? Math.min(100, f.v[1] + 2) : Math.max(0, f.v[1] - 1);
                f.v[4] = Math.min(9999, f.v[4] + (sits ? 1 : 0));
                sum += sits ? f.kind().brings(f) : 0;
            }
            sat = set;
            talk = Math.min(99999, talk + sum);
            return sum;
        }

        State evening() {
            int set = 0;
            for (int i = 0; i < folk.size(); i++) {
                set |= draw(100) < comes(folk.get(i)) ? 1 << i : 0;
            }
            dine(set);
            if (draw(100) < fog && !folk.isEmpty()) {
                Folk f = folk.get(draw(folk.size()));
                f.v[2] = draw(100);
            }
            evening++;
            return this;
        }

        State evenings(int n) {
            for (int i = 0; i < n; i++) {
                evening();
            }
            return this;
        }

        int sum(int what) { return folk.stream().mapToInt(f -> f.v[what]).sum(); }

        int tells(int what) { return new int[] {talk, sent, failed, sat, sum(1)}[what]; }
    }

    State now = new State();
    State image = null;
    String tape = "";
    /** A row of Integers, null where NO NUMBER is. */
    final Integer[][] sheets = new Integer[4][];
    final int[] sorts = new int[4];
    final Object[] slots = new Object[5];
    List<Integer> waiting = new ArrayList<>();

    private boolean folk(int p) { return p >= 0 && p < now.folk.size(); }
    private static boolean in(int v, int a, int b) { return v >= a && v <= b; }
    private static boolean bad(boolean... fine) {
        for (boolean b : fine) {
            if (!b) {
                return true;
            }
        }
        return false;
    }

    int person(int kind, int odds, int steps, int wit) {
        if (bad(in(kind, 0, 5), in(odds, 0, 100), in(steps, 0, 99), in(wit, 0, 99))) return BAD;
        if (now.folk.size() == 10) return FULL;
        now.folk.add(new Folk(kind, odds, steps, wit, 0));
        return now.folk.size() - 1;
    }

    int told(int p, int what) {
        if (bad(folk(p), in(what, 0, 8))) return BAD;
        Folk f = now.folk.get(p);
        if (what < 5) return f.v[what];
        return what == 5 ? now.comes(f) : what == 6 ? f.kind().walks(f) : what == 7 ? f.kind().brings(f) : f.kind().worth(f);
    }

    int as(int p, int kind) {
        if (bad(folk(p), in(kind, 0, 5))) return BAD;
        return now.folk.get(p).isOf(kind) ? now.folk.get(p).v[3] : KIND;
    }

    private int put(int p, int what, int v) {
        int was = now.folk.get(p).v[what];
        now.folk.get(p).v[what] = v;
        return was;
    }

    int turns(int p, int kind) { return bad(folk(p), in(kind, 0, 5)) ? BAD : put(p, 0, kind); }

    int set(int p, int what, int v) {
        if (bad(folk(p), in(what, 1, 4)) || !in(v, 0, new int[] {0, 100, 99, 99, 9999}[what])) return BAD;
        return put(p, what, v);
    }

    int rule(int what, int v) {
        if (bad(in(what, 0, 1)) || !in(v, 0, what == 0 ? 10 : 100)) return BAD;
        int was = what == 0 ? now.never : now.fog;
        if (what == 0) now.never = v; else now.fog = v;
        return was;
    }

    int deal(int n) {
        if (!in(n, 1, 10)) return BAD;
        int came = 0;
        while (came < n && now.folk.size() < 10) {
            now.folk.add(new Folk(now.draw(6), now.draw(101), now.draw(100), now.draw(100), 0));
            came++;
        }
        return came;
    }

    int seed(int v) {
        int was = now.z;
        now.z = v;
        return was;
    }

    int fewest(int v, int what) {
        if (bad(in(v, 0, 999), in(what, 0, 1))) return BAD;
        for (int many = 0; many <= now.folk.size(); many++) {
            for (int set = 0; set < 1 << now.folk.size(); set++) {
                int sum = 0;
                for (int i = 0; i < now.folk.size(); i++) {
                    sum += (set & 1 << i) != 0 ? told(i, 7) : 0;
                }
                if (Integer.bitCount(set) == many && sum >= v) return what == 0 ? set : many;
            }
        }
        return NONE;
    }

    int sits(int set) { return set < 0 || set >= 1 << now.folk.size() ? BAD : now.dine(set); }

    int evenings(int n) {
        if (!in(n, 1, 100)) return BAD;
        int was = now.sent;
        for (int i = 0; i < n && now.evening < 9999; i++) now.evening();
        return now.sent - was;
    }

    int house(int what) {
        if (!in(what, 0, 6)) return BAD;
        if (what < 5) return now.tells(what);
        if (what == 5) return now.sum(3);
        return now.nearest(now.sat) < 0 ? NONE : now.nearest(now.sat);
    }

    int behind(int n, int what) {
        if (bad(in(n, 0, 100), in(what, 0, 4) || folk(what - 5))) return BAD;
        State s = now.twin().evenings(n);
        return what < 5 ? s.tells(what) : s.folk.get(what - 5).v[4];
    }

    int meets(int p, int q) {
        if (bad(folk(p), folk(q), p != q)) return BAD;
        State s = now.twin();
        for (int n = 1; n <= 200; n++) {
            s.evening();
            if ((s.sat & 1 << p) != 0 && (s.sat & 1 << q) != 0) return n;
        }
        return NONE;
    }

    private int best(State[] all, int n, int what) {
        int best = 0;
        for (int i = 0; i < all.length; i++) {
            all[i].evenings(n);
            if (all[i].talk > all[best].talk) best = i;
        }
        return what == 0 ? best : all[best].talk;
    }

    private State[] twins(int many) {
        State[] all = new State[many];
        for (int i = 0; i < many; i++) all[i] = now.twin();
        return all;
    }

    int door(int n, int what) {
        if (bad(in(n, 1, 60), in(what, 0, 1))) return BAD;
        State[] all = twins(now.folk.size());
        for (int i = 0; i < all.length; i++) all[i].folk.get(i).v[2] = 0;
        return all.length == 0 ? NONE : best(all, n, what);
    }

    int never(int n, int what) {
        if (bad(in(n, 1, 60), in(what, 0, 1))) return BAD;
        State[] all = twins(11);
        for (int i = 0; i < all.length; i++) all[i].never = i;
        return best(all, n, what);
    }

    int becomes(int p, int n, int what) {
        if (bad(folk(p), in(n, 1, 60), in(what, 0, 1))) return BAD;
        State[] all = twins(6);
        for (int i = 0; i < all.length; i++) all[i].folk.get(p).v[0] = i;
        return best(all, n, what);
    }

    int like(int sheet, int what) {
        if (bad(in(sheet, 0, 3), in(what, 0, 1))) return BAD;
        if (sheets[sheet] == null) return NOTHING;
        if (now.folk.isEmpty()) return NONE;
        int best = -1;
        int least = 0;
        for (int p = 0; p < now.folk.size(); p++) {
            int sum = 0;
            for (int k = 0; k < sheets[sheet].length; k++) {
                Integer v = sheets[sheet][k];
                if (v != null) sum += Math.abs(now.twin().evenings(k).folk.get(p).v[4] - v);
            }
            if (best < 0 || sum < least) {
                best = p;
                least = sum;
            }
        }
        return what == 0 ? best : least;
    }

    int fee() {
        int at = now.textOf("fee");
        return at < 0 ? now.sent : Texts.value(now.texts.get(at), c -> c == 's' ? now.sent : now.failed);
    }

    int fine(int p) {
        if (!folk(p)) return BAD;
        int at = now.textOf("fine");
        int[] v = now.folk.get(p).v;
        return at < 0 ? v[3] : Texts.value(now.texts.get(at), c -> c == 'o' ? v[1] : v[3]);
    }

    int feed(int a, int b, int c) {
        if (tape.length() > 84) return FULL;
        for (int v : new int[] {a, b, c}) {
            tape += "" + (char) (v >>> 24) + (char) (v >> 16 & 255) + (char) (v >> 8 & 255) + (char) (v & 255);
        }
        return tape.length();
    }

    int trim(int n) {
        if (!in(n, 0, tape.length())) return BAD;
        tape = tape.substring(0, n);
        return n;
    }

    int text() {
        String read = tape;
        tape = "";
        int fault = Texts.fault(read);
        if (fault >= 0) return -100 - fault;
        if (now.texts.size() == 14) return FULL;
        now.texts.add(read.replace((char) 32, ' '));
        return now.texts.size() - 1;
    }

    int textTold(int text, int what) {
        if (bad(in(text, 0, now.texts.size() - 1), in(what, 0, 1))) return BAD;
        String t = now.texts.get(text).strip();
        if (what == 0) return t.startsWith("ask") ? 0 : t.startsWith("fee") ? 1 : 2;
        return (int) Texts.words(t).stream().filter(w -> Character.isLetterOrDigit(t.charAt(w[0]))).count() - 1;
    }

    int why(int key) {
        if (!in(key, 0, 2)) return BAD;
        int at = now.textOf(new String[] {"ask", "fee", "fine"}[key]);
        return at < 0 ? NONE : at;
    }

    int sheet(int sheet, int sort, int n) {
        if (bad(in(sheet, 0, 3), in(sort, -1, 1), sort == -1 || n <= 24)) return BAD;
        if (sort >= 0 && n < 0) return SIZE;
        sheets[sheet] = sort == -1 ? null : new Integer[n];
        sorts[sheet] = sort;
        if (sort >= 0) Arrays.fill(sheets[sheet], 0);
        return sort == -1 ? 0 : n;
    }

    int mark(int sheet, int place, int v) {
        if (!in(sheet, 0, 3)) return BAD;
        Integer[] row = sheets[sheet];
        if (row == null) return NOTHING;
        if (!in(place, 0, row.length - 1)) return INDEX;
        if (sorts[sheet] == 0 && v == NONE) return KIND;
        if (sorts[sheet] == 1 && v != NONE && Math.abs((long) v) > 99999) return BAD;
        row[place] = v == NONE ? null : sorts[sheet] == 0 ? Integer.valueOf((short) v) : Integer.valueOf(v);
        return 1;
    }

    int pour(int sheet) {
        if (!in(sheet, 0, 3)) return BAD;
        if (sheets[sheet] == null) return NOTHING;
        int many = 0;
        for (int i = 0; i < Math.min(now.folk.size(), sheets[sheet].length); i++) {
            Integer v = sheets[sheet][i];
            if (v != null) {
                int odds = v < 0 ? 0 : v > 100 ? 100 : v;
                many += put(i, 1, odds) != odds ? 1 : 0;
            }
        }
        return many;
    }

    int reads(int sheet) {
        if (!in(sheet, 0, 3)) return BAD;
        if (sheets[sheet] == null) return NOTHING;
        for (int i = 0; i < sheets[sheet].length; i++) {
            Integer v = sheets[sheet][i];
            if (v != null && !(folk(i) && now.folk.get(i).v[2] == v)) return i;
        }
        return NONE;
    }

    int copy(int from, int place, int to, int at, int many) {
        if (bad(in(from, 0, 3), in(to, 0, 3))) return BAD;
        Integer[] a = sheets[from];
        Integer[] b = sheets[to];
        if (a == null || b == null) return NOTHING;
        if (sorts[from] != sorts[to]) return KIND;
        try {
            System.arraycopy(a, place, b, at, many);
            return many;
        } catch (IndexOutOfBoundsException e) {
            return INDEX;
        }
    }

    int lay(int slot, int thing, int k) {
        if (bad(in(slot, 0, 4), in(thing, 0, 3), thing != 1 || folk(k), thing != 2 || in(k, 0, 3))) return BAD;
        if (thing == 2 && sheets[k] == null) return NOTHING;
        Object was = slots[slot];
        slots[slot] = thing == 0 ? null : thing == 1 ? new Folk(now.folk.get(k).v.clone()) : thing == 2 ? sheets[k].clone() : Integer.valueOf(k);
        return was == null ? 0 : was instanceof Folk ? 1 : was instanceof Integer ? 3 : 2;
    }

    int ask(int slot, int kind) {
        if (bad(in(slot, 0, 4), in(kind, 0, 5))) return BAD;
        if (slots[slot] == null) return NOTHING;
        return slots[slot] instanceof Folk f && f.isOf(kind) ? f.kind().worth(f) : KIND;
    }

    int item(int slot, int place) {
        if (!in(slot, 0, 4)) return BAD;
        if (slots[slot] == null) return NOTHING;
        if (!(slots[slot] instanceof Integer[] row)) return KIND;
        if (!in(place, 0, row.length - 1)) return INDEX;
        return row[place] == null ? KIND : row[place];
    }

    int rest(int slot, int n) {
        if (!in(slot, 0, 4)) return BAD;
        if (slots[slot] == null) return NOTHING;
        if (!(slots[slot] instanceof Integer v)) return KIND;
        return n == 0 ? NO : (int) ((long) v % n);
    }

    int tell(int v) {
        if (waiting.size() == 60) return FULL;
        waiting.add(v);
        return waiting.size();
    }

    int check(int n) {
        List<Integer> got = waiting;
        waiting = new ArrayList<>();
        if (!in(n, 1, 30)) return BAD;
        if (image == null) return NO;
        List<Integer> due = new ArrayList<>();
        State s = image.twin();
        for (int i = 0; i < n && s.evening < 9999; i++) {
            s.evening();
            due.add(s.talk);
            due.add(s.sum(1));
        }
        int same = 0;
        while (same < due.size() && same < got.size() && due.get(same).equals(got.get(same))) same++;
        return due.equals(got) ? 0 : 1 + same;
    }

    int keep() {
        image = now.twin();
        return now.folk.size();
    }

    int back() {
        if (image == null) return NO;
        now = image.twin();
        return now.folk.size();
    }

    int count(int what) {
        if (!in(what, 0, 7)) return BAD;
        return new int[] {now.folk.size(), now.evening, now.never, now.fog, now.texts.size(), waiting.size(), tape.length(), now.z}[what];
    }

    /** Texts by two piles, not by going down. */
    static final class Texts {
        private Texts() { }

        private static boolean letter(char c) { return c >= 'a' && c <= 'z'; }
        private static boolean digit(char c) { return c >= '0' && c <= '9'; }

        /** From where to where each word or sign goes. */
        static List<int[]> words(String t) {
            List<int[]> all = new ArrayList<>();
            int i = 0;
            while (i < t.length()) {
                int j = i + 1;
                while (j < t.length() && (letter(t.charAt(i)) && letter(t.charAt(j)) || digit(t.charAt(i)) && digit(t.charAt(j)))) j++;
                if (t.charAt(i) != ' ') all.add(new int[] {i, j});
                i = j;
            }
            return all;
        }

        static int fault(String t) {
            List<int[]> words = words(t);
            if (words.isEmpty()) return t.length();
            String key = t.substring(words.get(0)[0], words.get(0)[1]);
            if (!List.of("ask", "fee", "fine").contains(key)) return words.get(0)[0];
            String names = key.equals("ask") ? "owtn" : key.equals("fee") ? "sf" : "ow";
            boolean piece = true;
            // Of each bracket that is open: whether it has compared, and how many ! wait for it.
            List<Boolean> compared = new ArrayList<>(List.of(false));
            List<Integer> notsOf = new ArrayList<>();
            int nots = 0;
            int fresh = 0;
            for (int i = 1; i < words.size(); i++) {
                int[] w = words.get(i);
                String s = t.substring(w[0], w[1]);
                boolean word = letter(s.charAt(0)) || digit(s.charAt(0));
                int top = compared.size() - 1;
                if (piece) {
                    if (word) {
                        char before = t.charAt(w[0] - 1);
                        boolean glued = letter(before) || digit(before);
                        boolean right = digit(s.charAt(0)) ? s.length() <= 4 : s.length() == 1 && names.contains(s);
                        if (glued || !right) return w[0];
                        nots -= fresh;
                        fresh = 0;
                        piece = false;
                    } else if (s.equals("!") && nots < 8) {
                        nots++;
                        fresh++;
                    } else if (s.equals("(") && notsOf.size() < 8) {
                        notsOf.add(fresh);
                        fresh = 0;
                        compared.add(false);
                    } else {
                        return w[0];
                    }
                } else if (s.equals(")") && !notsOf.isEmpty()) {
                    nots -= notsOf.remove(notsOf.size() - 1);
                    compared.remove(top);
                } else if (s.equals("|") || s.equals("&")) {
                    compared.set(top, false);
                    piece = true;
                } else if ((s.equals("<") || s.equals("=") || s.equals(">")) && !compared.get(top)) {
                    compared.set(top, true);
                    piece = true;
                } else if ("+-*/".contains(s)) {
                    piece = true;
                } else {
                    return w[0];
                }
            }
            return piece || !notsOf.isEmpty() ? t.length() : -1;
        }

        private static int rank(char c) { return c == '(' ? 0 : c == '!' ? 6 : 1 + new int[] {0, 1, 2, 2, 2, 3, 3, 4, 4}["|&<=>+-*/".indexOf(c)]; }

        static int value(String t, IntUnaryOperator names) {
            List<Integer> values = new ArrayList<>();
            List<Character> signs = new ArrayList<>();
            List<int[]> words = words(t);
            for (int i = 1; i < words.size(); i++) {
                String s = t.substring(words.get(i)[0], words.get(i)[1]);
                char c = s.charAt(0);
                if (digit(c)) {
                    values.add(Integer.parseInt(s));
                } else if (letter(c)) {
                    values.add(names.applyAsInt(c));
                } else if (c == '(' || c == '!') {
                    signs.add(c);
                } else if (c == ')') {
                    while (signs.get(signs.size() - 1) != '(') work(values, signs);
                    signs.remove(signs.size() - 1);
                } else {
                    while (!signs.isEmpty() && rank(signs.get(signs.size() - 1)) >= rank(c)) work(values, signs);
                    signs.add(c);
                }
            }
            while (!signs.isEmpty()) work(values, signs);
            return values.get(0);
        }

        private static void work(List<Integer> values, List<Character> signs) {
            char c = signs.remove(signs.size() - 1);
            int b = values.remove(values.size() - 1);
            if (c == '!') {
                values.add(b == 0 ? 1 : 0);
                return;
            }
            int a = values.remove(values.size() - 1);
            values.add(switch (c) {
                case '|' -> a == 0 && b == 0 ? 0 : 1;
                case '&' -> a == 0 || b == 0 ? 0 : 1;
                case '<' -> a < b ? 1 : 0;
                case '=' -> a == b ? 1 : 0;
                case '>' -> a > b ? 1 : 0;
                case '+' -> a + b;
                case '-' -> a - b;
                case '*' -> a * b;
                default -> b == 0 ? 0 : a / b;
            });
        }
    }
}
