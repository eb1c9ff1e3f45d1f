/** Numbers that look like chance and are the same at each run. */
final class Dice {
    private long state;

    Dice(long seed) {
        state = seed;
    }

    int roll(int sides) {
        return (int) ((any() >>> 33) % sides);
    }

    boolean chance(int percent) {
        return roll(100) < percent;
    }

    /** 32 bits of any kind. */
    int bits() {
        return (int) (any() >>> 32);
    }

    private long any() {
        state = state * 6364136223846793005L + 1442695040888963407L;
        return state;
    }
}
