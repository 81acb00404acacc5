/** Throws that look random and are the same each time. */
final class Dice {
    private long state;

    Dice(long seed) {
        state = seed * 0x9e3779b97f4a7c15L + 1;
    }

    long nextLong() {
        state = state * 6364136223846793005L + 1442695040888963407L;
        long mixed = (state ^ state >>> 29) * 0xbf58476d1ce4e5b9L;
        return mixed ^ mixed >>> 32;
    }

    /** 0 .. sides - 1. */
    int next(int sides) {
        return (int) Long.remainderUnsigned(nextLong(), sides);
    }

    boolean oneIn(int sides) {
        return next(sides) == 0;
    }

    char signOf(String signs) {
        return signs.charAt(next(signs.length()));
    }
}
