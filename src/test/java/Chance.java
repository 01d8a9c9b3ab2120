/** Numbers that look random but are the same at each run of a test. */
final class Chance {
    private long seed;

    Chance(long seed) {
        this.seed = seed * 2654435761L + 1;
    }

    int below(int bound) {
        seed = seed * 6364136223846793005L + 1442695040888963407L;
        return (int) ((seed >>> 33) % bound);
    }
}
