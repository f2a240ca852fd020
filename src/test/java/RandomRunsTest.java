import java.util.Random;

/** Runs of 512 calls by lot (always the same lot), each answer compared with that of the model. */
public final class RandomRunsTest {
    private static final int RUNS = 400, CALLS = 512;
    private static Random lot;

    public static void main(String[] args) {
        for (int run = 0; run < RUNS; run++) {
            lot = new Random(run);
            run(run);
        }
        Due.finish();
    }

    private static void run(int run) {
        Both both = new Both();
        boolean wild = run % 4 == 0;
        if (!wild) {
            int people = lot.nextInt(11);
            for (int i = 0; i < people; i++) {
                both.call(Both.PERSON, lot.nextInt(6), lot.nextInt(101), lot.nextInt(100), lot.nextInt(100));
            }
        }
        while (both.calls < CALLS) {
            // A text takes twelve calls at most, a check of right numbers sixty-two.
            int left = CALLS - both.calls;
            int which = lot.nextInt(39);
            if (lot.nextInt(6) == 0 && left >= 12) {
                both.text(text());
                both.call(Both.FEE);
                continue;
            }
            // Without this, the tape would be full nearly always, and the dear calls would take too long.
            if (which == 20 && lot.nextInt(4) != 0 || (which >= 12 && which <= 17) && lot.nextInt(4) != 0) {
                which = lot.nextInt(12);
            }
            int[] a = new int[5];
            for (int j = 0; j < a.length; j++) {
                a[j] = argument(which, j, wild);
            }
            if (which == Both.CHECK && left >= 62) {
                tellRight(both, a[0]);
            }
            both.call(which, a);
        }
    }

    private static int argument(int which, int j, boolean wild) {
        int way = lot.nextInt(wild ? 12 : 20);
        if (way == 0) {
            int[] odd = {-1, Integer.MIN_VALUE, Integer.MAX_VALUE, TwelveShort.NONE, -100000, 100000, 32768, -32769};
            return odd[lot.nextInt(odd.length)];
        }
        if (way == 1) {
            return lot.nextInt();
        }
        int[][] most = {
            {6, 101, 100, 100, 1}, {10, 9}, {10, 6}, {10, 6}, {10, 5, 101}, {2, 11}, {4}, {1 << 30}, {80, 2}, {1024}, {101},
            {7}, {101, 16}, {10, 10}, {61, 2}, {61, 2}, {10, 61, 2}, {4, 2}, {1}, {10}, {256, 256, 256}, {97}, {1},
            {14, 2}, {3}, {4, 2, 25}, {4, 24, 120}, {4}, {4}, {4, 12, 4, 12, 12}, {5, 4, 10}, {5, 6}, {5, 24}, {5, 40},
            {1000}, {30}, {1}, {1}, {8},
        };
        int[] row = most[which];
        int top = j < row.length ? row[j] : 1;
        int v = lot.nextInt(top + (way == 2 ? 1 : 0));
        return which == 25 && j == 1 && lot.nextInt(12) == 0 ? -1 : v;
    }

    /** A text by lot, mostly a right one. */
    private static String text() {
        StringBuilder s = new StringBuilder();
        String[] keys = {"ask", "fee", "fine"};
        int key = lot.nextInt(3);
        blanks(s);
        s.append(keys[key]).append(lot.nextInt(20) == 0 ? "" : " ");
        expression(s, new String[] {"owtn", "sf", "ow"}[key], lot.nextInt(7));
        blanks(s);
        for (int i = lot.nextInt(3) == 0 ? 1 + lot.nextInt(2) : 0; i > 0 && s.length() > 0; i--) {
            int at = lot.nextInt(s.length());
            String signs = "owtnsf019 ()!!&|<=>+-*/xA";
            char c = lot.nextInt(30) == 0 ? (char) lot.nextInt(256) : signs.charAt(lot.nextInt(signs.length()));
            int way = lot.nextInt(3);
            if (way == 0) {
                s.setCharAt(at, c);
            } else if (way == 1) {
                s.insert(at, c);
            } else {
                s.deleteCharAt(at);
            }
        }
        return s.length() > 96 ? s.substring(0, 96) : s.toString();
    }

    private static void blanks(StringBuilder s) {
        for (int i = lot.nextInt(6) == 0 ? lot.nextInt(3) : 0; i > 0; i--) {
            s.append(' ');
        }
    }

    private static void expression(StringBuilder s, String names, int deep) {
        int pieces = 1 + lot.nextInt(4);
        boolean compared = false;
        for (int i = 0; i < pieces; i++) {
            if (i > 0) {
                char sign = "|&<=>+-*/+-*/".charAt(lot.nextInt(13));
                if ("<=>".indexOf(sign) >= 0) {
                    sign = compared ? '&' : sign;
                }
                compared = "<=>".indexOf(sign) >= 0 || compared && "&|".indexOf(sign) < 0;
                blanks(s);
                s.append(sign);
                blanks(s);
            }
            piece(s, names, deep);
        }
    }

    private static void piece(StringBuilder s, String names, int deep) {
        int way = lot.nextInt(5);
        if (way == 0) {
            s.append(lot.nextInt(lot.nextInt(4) == 0 ? 12000 : 110));
        } else if (way == 1 && deep > 0 && s.length() < 90) {
            int many = lot.nextInt(8) == 0 ? lot.nextInt(9) : 1;
            s.append("!".repeat(many));
            piece(s, names, deep - 1);
        } else if (way == 2 && deep > 0 && s.length() < 80) {
            int many = lot.nextInt(8) == 0 ? lot.nextInt(9) : 1;
            s.append("(".repeat(many));
            expression(s, names, deep - 1);
            s.append(")".repeat(many));
        } else {
            s.append(names.charAt(lot.nextInt(names.length())));
        }
    }

    /** Mostly the right numbers, or all of them but one, wait then. */
    private static void tellRight(Both both, int n) {
        if (both.m.image == null || lot.nextInt(4) == 0) {
            return;
        }
        both.call(Both.CHECK, 1);
        Model.State s = both.m.image.twin();
        int rounds = lot.nextInt(5) == 0 ? lot.nextInt(30) : n;
        int wrong = lot.nextInt(3) == 0 ? lot.nextInt(60) : -1;
        for (int i = 0; i < rounds && i < 30 && s.evening < 9999; i++) {
            s.evening();
            both.call(Both.TELL, s.talk + (wrong == 2 * i ? 1 : 0));
            both.call(Both.TELL, s.sum(1) + (wrong == 2 * i + 1 ? 1 : 0));
        }
    }
}
