/** Draws that are the same in each run. */
final class Dice {
    private long state;

    Dice(long seed) {
        state = seed * 0x9E3779B97F4A7C15L + 0x1234567L;
    }

    int below(int bound) {
        state += 0x9E3779B97F4A7C15L;
        long z = state;
        z = (z ^ (z >>> 30)) * 0xBF58476D1CE4E5B9L;
        z = (z ^ (z >>> 27)) * 0x94D049BB133111EBL;
        z ^= z >>> 31;
        return (int) Math.floorMod(z, (long) bound);
    }

    int from(int least, int most) {
        return least + below(most - least + 1);
    }

    boolean once(int in) {
        return below(in) == 0;
    }

    String pick(String... of) {
        return of[below(of.length)];
    }
}
