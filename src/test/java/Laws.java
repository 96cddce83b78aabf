import java.util.Arrays;
import java.util.function.Supplier;

/** What a call in mind must answer, worked out by calls that are not: by going, by setting, by looking at each PLAN. */
final class Laws {
  private Laws() {
  }

  /** The ACT of one who HOLDS; under LAG 0 alone, as there is nothing under way then. */
  static int holdAct(DownAmongFences x) {
    return x.count(4) < 12 + 2 * x.count(6) && x.count(5) > 0 ? 1 : 0;
  }

  /** HEIGHTS behind STEPS of HOLD, really gone; with the WORK that is under way, one number for each STEP of LAG. */
  static int[] heightsOfHold(DownAmongFences x, int steps, int... work) {
    int[] heights = new int[steps];
    int[] all = Arrays.copyOf(work, work.length + steps);
    for (int i = 0; i < steps; i++) {
      int coming = 0;
      for (int j = i; j < i + work.length; j++) {
        coming += all[j];
      }
      int act = x.count(4) + coming < 12 + 2 * x.count(6) && x.count(5) > 0 ? 1 : 0;
      all[i + work.length] = act == 1 ? 4 : 0;
      heights[i] = x.go(act);
    }
    return heights;
  }

  /** X, Y, PACE and STEPS of a PLAN that is really gone, all -9 if it is not DOWN behind 60; under LAG 0 alone. */
  static int[] gone(DownAmongFences x, int k, int p) {
    int pace = 0;
    int steps = 0;
    while (steps < 60 && x.count(1) > 0) {
      x.go(steps < k ? holdAct(x) : steps < k + p ? 2 : 0);
      steps++;
      pace = -x.rising();
    }
    boolean down = x.count(1) == 0;
    return down ? new int[] {x.count(2), x.count(3), pace, steps} : new int[] {-9, -9, -9, -9};
  }

  /** HAD of a FIELD by looking at each PLAN: how many, the first, the softest. */
  static int[] had(DownAmongFences x, int field) {
    int[] found = {0, -9, -9};
    int softest = 99;
    for (int k = 0; k <= 30; k++) {
      for (int p = 0; p <= 5; p++) {
        if (x.plan(k, p, 4) == field) {
          found[0]++;
          found[1] = found[1] < 0 ? 10 * k + p : found[1];
          int pace = x.plan(k, p, 2);
          if (pace < softest) {
            softest = pace;
            found[2] = 10 * k + p;
          }
        }
      }
    }
    return found;
  }

  /** The BEST PLAN and its COST by looking at each. */
  static int[] best(DownAmongFences x) {
    int[] best = {-9, -9};
    for (int k = 0; k <= 30; k++) {
      for (int p = 0; p <= 5; p++) {
        int cost = x.plan(k, p, 5);
        if (cost >= 0 && (best[0] < 0 || cost < best[1])) {
          best = new int[] {10 * k + p, cost};
        }
      }
    }
    return best;
  }

  /** HEIGHTS behind each STEP of one who answers what he feels in each g-th, as he really goes. */
  static int[] felt(DownAmongFences x, int g, int steps) {
    int[] heights = new int[steps];
    for (int i = 0; i < steps; i++) {
      int rising = i % g == 0 ? x.rising() : 0;
      int act = rising < 0 ? 1 : rising > 0 ? 2 : 0;
      if (x.go(act) == -3) {
        x.go(0);
      }
      heights[i] = x.count(1);
    }
    return heights;
  }

  /** How far from a HEIGHT the HEIGHTS of the STEPS from .. to - 1 are at most. */
  static int farthest(int[] heights, int height, int from, int to) {
    int most = 0;
    for (int i = from; i < to; i++) {
      most = Math.max(most, Math.abs(heights[i] - height));
    }
    return most;
  }

  static boolean grows(Supplier<DownAmongFences> make, int g) {
    DownAmongFences x = make.get();
    int height = x.count(1);
    int[] heights = felt(x, g, 40);
    return farthest(heights, height, 20, 40) > farthest(heights, height, 0, 20);
  }

  static int calm(Supplier<DownAmongFences> make) {
    for (int g = 1; g <= 9; g++) {
      if (!grows(make, g)) {
        return g;
      }
    }
    return -9;
  }

  /** LOTS as they are really gone, one balloon each: how many come DOWN in a FIELD, all COSTS. */
  static int[] lots(Supplier<DownAmongFences> make, int n, int z) {
    long seed = z;
    int[] answer = {0, 0};
    for (int i = 0; i < n; i++) {
      DownAmongFences x = make.get();
      int steps = 0;
      int pace = 0;
      do {
        int above = x.count(1);
        seed = (seed * 1103515245L + 12345L) % 4294967296L;
        int act = (int) ((seed & 2147483647L) / 65536L % 3);
        if (x.go(act) == -3) {
          x.go(0);
        }
        steps++;
        pace = above > 0 ? -x.rising() : 0;
      } while (steps < 40 && x.count(1) > 0);
      boolean down = x.count(1) == 0;
      int field = down ? x.plan(0, 0, 4) : -9;
      answer[0] += field >= 0 ? 1 : 0;
      answer[1] += field >= 0 ? x.cost(field, pace) : 40;
    }
    return answer;
  }

  /** The fewest MINUTES of a TOUR by trying all orders, and the first of the least such one; -9s if there is none. */
  static int[] tour(DownAmongFences x, int places) {
    int[][] minutes = new int[8][8];
    int at = x.count(17);
    for (int one = 0; one < 8; one++) {
      x.car(one);
      for (int other = 0; other < 8; other++) {
        minutes[one][other] = x.drive(other);
      }
    }
    x.car(at);
    int[] best = {-9, -9};
    orders(minutes, at, places & ~(1 << at), 0, -9, best);
    return best;
  }

  private static void orders(int[][] minutes, int at, int left, int gone, int first, int[] best) {
    if (left == 0) {
      if (best[0] < 0 || gone < best[0] || (gone == best[0] && first < best[1])) {
        best[0] = gone;
        best[1] = first;
      }
      return;
    }
    for (int next = 0; next < 8; next++) {
      if ((left >> next & 1) == 1 && minutes[at][next] >= 0) {
        orders(minutes, next, left & ~(1 << next), gone + minutes[at][next], first < 0 ? next : first, best);
      }
    }
  }
}
