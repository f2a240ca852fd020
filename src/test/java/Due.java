/** Compares answers with those that are due, tells each that is otherwise, and ends the test. */
final class Due {
    private static int wrong = 0;
    private static int asked = 0;

    private Due() {
    }

    static void is(String call, int got, int want) {
        asked++;
        if (got != want) {
            wrong++;
            System.out.println(call + " answered " + got + ", due is " + want);
        }
    }

    /** The text comes to the tape, and the tape ends where the text does. */
    static void feed(TwelveShort x, String text) {
        int length = text.length();
        for (int from = 0; from < length; from += 12) {
            int[] words = new int[3];
            for (int i = 0; i < 12; i++) {
                int b = from + i < length ? text.charAt(from + i) & 255 : 7;
                words[i / 4] = words[i / 4] << 8 | b;
            }
            x.feed(words[0], words[1], words[2]);
        }
        is("trim to " + text, x.trim(length), length);
    }

    static int text(TwelveShort x, String text) {
        feed(x, text);
        return x.text();
    }

    static void finish() {
        System.out.println(asked + " answers, " + wrong + " not as due");
        if (wrong != 0 || asked == 0) {
            System.exit(1);
        }
    }
}
