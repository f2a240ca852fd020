import java.util.Random;

/**
 * Rule 7 of LANGUAGE.md: no call throws, for any arguments in any state, also behind the 512th call of an object, where
 * the answers are free and are not looked at.
 */
public final class NeverThrowsTest {
    private static final int OBJECTS = 40, CALLS = 5000;
    private static final int[] EDGES = {Integer.MIN_VALUE, Integer.MIN_VALUE + 1, -1000000005, -100000, -1, 0, 1, 2, 3, 4, 5, 9, 10, 12, 23, 24, 25,
        30, 60, 96, 99, 100, 255, 1023, 1024, 9999, 32768, 99999, Integer.MAX_VALUE - 1, Integer.MAX_VALUE};
    private static final String TEXTS = "ask fee fine owtnsf 0123456789 ()!&|<=>+-*/ ";

    public static void main(String[] args) {
        for (int i = 0; i < OBJECTS; i++) {
            Random lot = new Random(i);
            TwelveShort x = new TwelveShort();
            int thrown = 0;
            for (int call = 0; call < CALLS && thrown == 0; call++) {
                thrown += thrownBy(x, lot);
            }
            Due.is("7: object " + i + " has thrown", thrown, 0);
        }
        Due.finish();
    }

    private static int thrownBy(TwelveShort x, Random lot) {
        int which = lot.nextInt(Both.NAMES.length);
        int[] a = new int[5];
        for (int j = 0; j < a.length; j++) {
            a[j] = which == Both.FEED ? four(lot) : value(lot);
        }
        try {
            Both.on(x, which, a);
            return 0;
        } catch (RuntimeException | StackOverflowError thrown) {
            System.out.println("7: " + Both.NAMES[which] + " " + java.util.Arrays.toString(a) + " has thrown " + thrown);
            return 1;
        }
    }

    private static int value(Random lot) {
        int way = lot.nextInt(4);
        return way == 0 ? EDGES[lot.nextInt(EDGES.length)] : way == 1 ? lot.nextInt() : lot.nextInt(way == 2 ? 6 : 26);
    }

    /** Four bytes that are mostly such as stand in texts. */
    private static int four(Random lot) {
        int v = 0;
        int from = lot.nextInt(TEXTS.length());
        for (int i = 0; i < 4; i++) {
            boolean inRow = lot.nextInt(3) == 0;
            v = v << 8 | TEXTS.charAt(inRow ? (from + i) % TEXTS.length() : lot.nextInt(TEXTS.length()));
        }
        return lot.nextInt(8) == 0 ? lot.nextInt() : v;
    }
}
