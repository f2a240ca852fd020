import java.util.function.IntPredicate;

/** Draws as the document tells them, reckoned in longs, and seeds that give such draws as a test needs. */
final class Draws {
    private int z;

    Draws(int seed) {
        z = seed;
    }

    int z() {
        return z;
    }

    int rest(int by) {
        z = (int) (((long) z * 1103515245L + 12345L) & 0xffffffffL);
        return (int) (((z & 0xffffffffL) / 256) % by);
    }

    /** The nth draw from a seed on (from 1 on), its rest. */
    static int nth(int seed, int n, int by) {
        Draws d = new Draws(seed);
        for (int i = 1; i < n; i++) {
            d.rest(by);
        }
        return d.rest(by);
    }

    static int seed(IntPredicate gives) {
        int seed = 0;
        while (!gives.test(seed)) {
            seed++;
        }
        return seed;
    }
}
