/** Numbers that look thrown, the same ones in each run. */
final class Dice {
  private long seed;

  Dice(long seed) {
    this.seed = seed * 2654435761L + 97;
  }

  int whole() {
    seed = seed * 6364136223846793005L + 1442695040888963407L;
    return (int) (seed >>> 32);
  }

  int below(int n) {
    return (int) ((whole() & 0xffffffffL) % n);
  }

  int among(int least, int most) {
    return least + below(most - least + 1);
  }

  /** Mostly among least .. most, sometimes just outside of it or far off. */
  int near(int least, int most) {
    switch (below(60)) {
      case 0:
        return least - 1;
      case 1:
        return most + 1;
      case 2:
        return below(2) == 0 ? Integer.MIN_VALUE : Integer.MAX_VALUE;
      default:
        return among(least, most);
    }
  }
}
