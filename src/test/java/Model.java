import java.util.ArrayDeque;
import java.util.ArrayList;
import java.util.Arrays;
import java.util.Collections;
import java.util.List;
import java.util.PriorityQueue;
import java.util.regex.Matcher;
import java.util.regex.Pattern;

/** The document told a second time, slowly and with other means, to hold the class against. */
final class Model {
  /** All of THE IMAGE. */
  static final class Sky {
    int[][] wind = new int[8][2];
    List<int[]> fields = new ArrayList<>();
    int[][] roads = new int[8][8];
    int car;
    int height;
    int x = 100;
    int y;
    int heat = 20;
    int gas = 30;
    int people = 4;
    int lag = 2;
    int step;
    int pace;
    ArrayDeque<Integer> work = new ArrayDeque<>(List.of(0, 0));

    Sky copy() {
      Sky c = new Sky();
      for (int i = 0; i < 8; i++) {
        c.wind[i] = wind[i].clone();
        c.roads[i] = roads[i].clone();
      }
      for (int[] f : fields) {
        c.fields.add(f.clone());
      }
      c.car = car;
      c.height = height;
      c.x = x;
      c.y = y;
      c.heat = heat;
      c.gas = gas;
      c.people = people;
      c.lag = lag;
      c.step = step;
      c.work = new ArrayDeque<>(work);
      return c;
    }

    void loseWork(int newLag) {
      lag = newLag;
      work = new ArrayDeque<>(Collections.nCopies(newLag, 0));
    }

    int balance() {
      return 12 + 2 * people;
    }

    int rising() {
      int over = heat - balance();
      return over < 0 ? -(-over / 4) : over / 4;
    }

    void step(int act) {
      if (act == 1) {
        if (gas == 0) {
          throw new IllegalStateException("FIRE without GAS");
        }
        gas--;
      }
      work.addLast(act == 1 ? 4 : act == 2 ? -5 : 0);
      heat = Math.max(0, Math.min(60, heat - 1 + work.removeFirst()));
      int r = rising();
      boolean wasDown = height == 0;
      height = Math.max(0, Math.min(39, height + r));
      pace = !wasDown && height == 0 ? -r : 0;
      if (height > 0) {
        x = Math.max(0, Math.min(999, x + wind[height / 5][0]));
        y = Math.max(0, Math.min(999, y + wind[height / 5][1]));
      }
      step++;
    }

    void stepIfAble(int act) {
      step(act == 1 && gas == 0 ? 0 : act);
    }

    void holdStep() {
      int all = heat;
      for (int w : work) {
        all += w;
      }
      stepIfAble(all < balance() ? 1 : 0);
    }

    int drag(int p) {
      return Math.max(0, 4 * p + 3 * (Math.abs(wind[0][0]) + wind[0][1]) - 2 * people);
    }

    int fieldAt() {
      for (int i = 0; i < fields.size(); i++) {
        int[] f = fields.get(i);
        boolean across = f[2] <= x && x <= f[2] + f[4] - 1;
        boolean along = f[3] <= y && y <= f[3] + f[4] - 1;
        if (across && along) {
          return i;
        }
      }
      return -9;
    }

    int cost(int field, int p) {
      if (field == -9) {
        return 40;
      }
      int[] f = fields.get(field);
      int cost = p > 3 ? p + p : p;
      if (f[0] == 1 || f[0] == 5) {
        cost += f[1] + 5;
      }
      if (f[0] == 2 || f[0] == 4) {
        cost += 3 * f[1];
      }
      if (f[0] == 3) {
        cost += f[1];
      }
      if (f[0] == 4 && drag(p) > 10 * f[4]) {
        cost += 20;
      }
      return f[0] == 5 ? cost / 2 : cost;
    }

    int costHere() {
      return cost(fieldAt(), pace);
    }

    /** By Dijkstra's way; 1000000 for no way. */
    int[] ways(int from) {
      int[] far = new int[8];
      Arrays.fill(far, 1000000);
      far[from] = 0;
      PriorityQueue<int[]> open = new PriorityQueue<>((a, b) -> a[0] - b[0]);
      open.add(new int[] {0, from});
      while (!open.isEmpty()) {
        int[] at = open.remove();
        for (int to = 0; to < 8; to++) {
          int road = roads[at[1]][to];
          if (road > 0 && at[0] + road < far[to]) {
            far[to] = at[0] + road;
            open.add(new int[] {far[to], to});
          }
        }
      }
      return far;
    }
  }

  /** X, Y, PACE, STEPS, FIELD, COST of a PLAN; null if it does not come DOWN. */
  static int[] fly(Sky from, int k, int p) {
    Sky s = from.copy();
    for (int i = 0; i <= 60; i++) {
      if (s.height == 0) {
        return new int[] {s.x, s.y, s.pace, i, s.fieldAt(), s.costHere()};
      }
      if (i < k) {
        s.holdStep();
      } else {
        s.step(i < k + p ? 2 : 0);
      }
    }
    return null;
  }

  /** The PLANS in their order, each 10 k and p, X, Y, PACE, STEPS, FIELD, COST; those not DOWN left out. */
  static List<int[]> allPlans(Sky from) {
    List<int[]> plans = new ArrayList<>();
    for (int k = 0; k <= 30; k++) {
      for (int p = 0; p <= 5; p++) {
        int[] end = fly(from, k, p);
        if (end != null) {
          plans.add(new int[] {10 * k + p, end[0], end[1], end[2], end[3], end[4], end[5]});
        }
      }
    }
    return plans;
  }

  static int[] bestPlan(Sky from) {
    int[] best = null;
    for (int[] plan : allPlans(from)) {
      if (best == null || plan[6] < best[6]) {
        best = plan;
      }
    }
    return best;
  }

  private static final Pattern LAND = Pattern.compile(
      "((w[0-9][+-][0-9]{2}|f[0-9]{10}|r[0-9]{4}|b[0-9]{5}|h[0-9]{2}|l[0-9]|a[0-9]{1,9});)+", Pattern.DOTALL);

  Sky now = new Sky();
  Sky picture;
  StringBuilder letters = new StringBuilder();
  List<Integer> row = new ArrayList<>();
  ArrayDeque<Sky> past = new ArrayDeque<>();
  int[] refusals = new int[7];

  int no(int number) {
    refusals[-number]++;
    return number;
  }

  private static boolean eight(int v) {
    return v >= 0 && v < 8;
  }

  private boolean noField(int field) {
    return field < 0 || field >= now.fields.size();
  }

  private static boolean among(int v, int most) {
    return v >= 0 && v <= most;
  }

  int feed(int letter) {
    if (letter < 0) {
      return no(-4);
    }
    if (letter > 255 || letters.length() == 96) {
      return no(-6);
    }
    letters.append((char) letter);
    return letters.length();
  }

  int land() {
    String text = letters.toString();
    letters.setLength(0);
    for (int i = 1; i <= text.length(); i++) {
      Matcher m = LAND.matcher(text.substring(0, i));
      if (!m.matches() && !m.hitEnd()) {
        return -1000 - (i - 1);
      }
    }
    if (!LAND.matcher(text).matches()) {
      return -1000 - text.length();
    }
    Sky s = now.copy();
    int place = 0;
    String[] statements = text.split(";");
    for (String statement : statements) {
      if (!tell(s, statement)) {
        return -2000 - place;
      }
      place += statement.length() + 1;
    }
    now = s;
    past.clear();
    return statements.length;
  }

  private static int num(String t, int from, int to) {
    return Integer.parseInt(t.substring(from, to));
  }

  private static boolean tell(Sky s, String t) {
    int first = num(t, 1, 2);
    switch (t.charAt(0)) {
      case 'w':
        if (first > 7) {
          return false;
        }
        s.wind[first] = new int[] {num(t, 2, 4), num(t, 4, 5)};
        return true;
      case 'f':
        int[] f = {first, num(t, 2, 3), num(t, 3, 6), num(t, 6, 9), num(t, 9, 11)};
        if (first > 5 || f[4] == 0 || f[4] > 30 || s.fields.size() == 8) {
          return false;
        }
        s.fields.add(f);
        return true;
      case 'r':
        int other = num(t, 2, 3);
        if (first > 7 || other > 7 || first == other) {
          return false;
        }
        s.roads[first][other] = num(t, 3, 5);
        s.roads[other][first] = num(t, 3, 5);
        return true;
      case 'b':
        s.heat = num(t, 1, 3);
        s.gas = num(t, 3, 5);
        s.people = num(t, 5, 6);
        return s.heat <= 60 && s.gas <= 60 && s.people >= 1 && s.people <= 6;
      case 'h':
        s.height = num(t, 1, 3);
        return s.height <= 39;
      case 'l':
        s.loseWork(first);
        return first <= 5;
      default:
        for (char c : t.substring(1).toCharArray()) {
          if (c > '2' || (c == '1' && s.gas == 0) || s.step == 999) {
            return false;
          }
          s.step(c - '0');
        }
        return true;
    }
  }

  int layer(int layer, int what) {
    if (!eight(layer)) {
      return 1000000000 - no(-1);
    }
    return among(what, 1) ? now.wind[layer][what] : 1000000000 - no(-2);
  }

  int wind(int layer, int side, int ahead) {
    if (!eight(layer)) {
      return no(-1);
    }
    if (side < -9 || ahead < 0) {
      return no(-4);
    }
    if (side > 9 || ahead > 9) {
      return no(-6);
    }
    int[] was = now.wind[layer];
    now.wind[layer] = new int[] {side, ahead};
    past.clear();
    return 100 * (was[0] + 9) + was[1];
  }

  int field(int field, int what) {
    if (noField(field)) {
      return no(-1);
    }
    return among(what, 4) ? now.fields.get(field)[what] : no(-2);
  }

  int cost(int field, int p) {
    if (noField(field)) {
      return no(-1);
    }
    return p < 0 ? no(-4) : p > 20 ? no(-6) : now.cost(field, p);
  }

  int drag(int p) {
    return p < 0 ? no(-4) : p > 20 ? no(-6) : now.drag(p);
  }

  int set(int what, int v) {
    if (!among(what, 4)) {
      return no(-2);
    }
    int[] least = {0, 0, 0, 1, 0};
    int[] most = {39, 60, 60, 6, 5};
    if (v < least[what]) {
      return no(-4);
    }
    if (v > most[what]) {
      return no(-6);
    }
    int[] was = {now.height, now.heat, now.gas, now.people, now.lag};
    now.height = what == 0 ? v : now.height;
    now.heat = what == 1 ? v : now.heat;
    now.gas = what == 2 ? v : now.gas;
    now.people = what == 3 ? v : now.people;
    if (what == 4 && v != now.lag) {
      now.loseWork(v);
    }
    past.clear();
    return was[what];
  }

  int rising() {
    return now.rising();
  }

  int go(int act) {
    if (!among(act, 2)) {
      return no(-2);
    }
    if (act == 1 && now.gas == 0) {
      return no(-3);
    }
    if (now.step == 999) {
      return no(-6);
    }
    past.addLast(now.copy());
    if (past.size() > 8) {
      past.removeFirst();
    }
    now.step(act);
    return now.height;
  }

  int back() {
    if (past.isEmpty()) {
      return no(-3);
    }
    now = past.removeLast();
    return now.step;
  }

  private int noPlan(int k, int p) {
    return k < 0 || p < 0 ? -4 : k > 30 || p > 5 ? -6 : 0;
  }

  int plan(int k, int p, int what) {
    if (noPlan(k, p) != 0) {
      return no(noPlan(k, p));
    }
    if (!among(what, 5)) {
      return no(-2);
    }
    int[] end = fly(now, k, p);
    return end == null ? -9 : end[what];
  }

  int had(int field, int what) {
    if (noField(field)) {
      return no(-1);
    }
    if (!among(what, 2)) {
      return no(-2);
    }
    int[] answer = {0, -9, -9};
    int softest = Integer.MAX_VALUE;
    for (int[] plan : allPlans(now)) {
      if (plan[5] == field) {
        answer[0]++;
        answer[1] = answer[1] == -9 ? plan[0] : answer[1];
        if (plan[3] < softest) {
          softest = plan[3];
          answer[2] = plan[0];
        }
      }
    }
    return answer[what];
  }

  int best(int what) {
    if (!among(what, 1)) {
      return no(-2);
    }
    int[] best = bestPlan(now);
    return best == null ? -9 : best[what == 0 ? 0 : 6];
  }

  int left() {
    int bits = 0;
    for (int[] plan : allPlans(now)) {
      bits |= plan[5] == -9 ? 0 : 1 << plan[5];
    }
    return bits;
  }

  int keep(int field) {
    if (noField(field)) {
      return no(-1);
    }
    for (int gas = 0; gas <= 60; gas++) {
      Sky s = now.copy();
      s.gas = gas;
      for (int[] plan : allPlans(s)) {
        if (plan[5] == field) {
          return gas;
        }
      }
    }
    return -9;
  }

  int goingOn(int n) {
    if (n < 0 || n > 20) {
      return 1000000000 - no(n < 0 ? -4 : -6);
    }
    Sky s = now.copy();
    for (int i = 0; i < n; i++) {
      s.holdStep();
    }
    int[] here = bestPlan(now);
    int[] later = bestPlan(s.copy());
    return here == null || later == null ? 1000 : later[6] - here[6];
  }

  int blown(int what) {
    if (!among(what, 2)) {
      return no(-2);
    }
    int best = 0;
    for (int i = 1; i < 8; i++) {
      int[] a = now.wind[i];
      int[] b = now.wind[best];
      boolean more = what == 0 ? a[0] > b[0] : what == 1 ? a[0] < b[0] : a[1] > b[1];
      best = more ? i : best;
    }
    return best;
  }

  int two(int side, int ahead, int what) {
    if (side < -99 || ahead < 0) {
      return no(-4);
    }
    if (side > 99 || ahead > 99) {
      return no(-6);
    }
    if (!among(what, 1)) {
      return no(-2);
    }
    int fewest = 41;
    int which = Integer.MAX_VALUE;
    for (int a = 0; a < 8; a++) {
      for (int b = 0; b < 8; b++) {
        for (int s = 0; s <= 40; s++) {
          for (int t = 0; s + t <= 40; t++) {
            if (s * now.wind[a][0] + t * now.wind[b][0] == side
                && s * now.wind[a][1] + t * now.wind[b][1] == ahead) {
              int told = 10000 * a + 1000 * b + s;
              if (s + t < fewest || (s + t == fewest && told < which)) {
                fewest = s + t;
                which = told;
              }
            }
          }
        }
      }
    }
    return fewest == 41 ? -9 : what == 0 ? fewest : which;
  }

  private int[] swings(int g) {
    Sky s = now.copy();
    int[] most = new int[2];
    for (int i = 0; i < 40; i++) {
      int felt = s.rising() < 0 ? 1 : s.rising() > 0 ? 2 : 0;
      s.stepIfAble(i % g == 0 ? felt : 0);
      most[i / 20] = Math.max(most[i / 20], Math.abs(s.height - now.height));
    }
    return new int[] {most[0], most[1], most[1] > most[0] ? 1 : 0};
  }

  int swing(int what) {
    return among(what, 2) ? swings(1)[what] : no(-2);
  }

  int calm() {
    for (int g = 1; g < 10; g++) {
      if (swings(g)[2] == 0) {
        return g;
      }
    }
    return -9;
  }

  int out() {
    if (now.height != 0) {
      return -9;
    }
    Sky s = now.copy();
    for (int n = 0; n < now.people; n++) {
      s.people--;
      if (s.rising() > 0) {
        return n;
      }
    }
    return now.people;
  }

  int road(int one, int other, int v) {
    if (!eight(one) || !eight(other) || one == other) {
      return no(-1);
    }
    if (v < 0 || v > 99) {
      return no(v < 0 ? -4 : -6);
    }
    int was = now.roads[one][other];
    now.roads[one][other] = v;
    now.roads[other][one] = v;
    past.clear();
    return was;
  }

  int car(int place) {
    if (!eight(place)) {
      return no(-1);
    }
    int was = now.car;
    now.car = place;
    past.clear();
    return was;
  }

  private static int orNone(int minutes) {
    return minutes >= 1000000 ? -9 : minutes;
  }

  int drive(int place) {
    return eight(place) ? orNone(now.ways(now.car)[place]) : no(-1);
  }

  private int waitSum(int place) {
    int[] far = now.ways(place);
    int sum = 0;
    for (int i = 0; i < 8; i++) {
      sum += row.get(i) * (far[i] >= 1000000 ? 99 : far[i]);
    }
    return sum;
  }

  int waitAt() {
    if (row.size() != 8) {
      return no(-3);
    }
    int best = 0;
    for (int place = 7; place >= 0; place--) {
      best = waitSum(place) <= waitSum(best) ? place : best;
    }
    return best;
  }

  long meanWait(int part) {
    if (row.size() != 8) {
      return 4000000000000000000L - no(-3);
    }
    if (!among(part, 1)) {
      return 4000000000000000000L - no(-2);
    }
    int weights = row.stream().mapToInt(v -> v).sum();
    if (weights == 0) {
      return part;
    }
    int sum = waitSum(waitAt());
    int by = java.math.BigInteger.valueOf(sum).gcd(java.math.BigInteger.valueOf(weights)).intValue();
    return (part == 0 ? sum : weights) / by;
  }

  int turned(int one, int other) {
    if (!eight(one) || !eight(other) || one == other) {
      return no(-1);
    }
    if (now.roads[one][other] == 0) {
      return -9;
    }
    Sky shut = now.copy();
    shut.roads[one][other] = 0;
    shut.roads[other][one] = 0;
    int then = shut.ways(one)[other];
    return then >= 1000000 ? -9 : then - now.ways(one)[other];
  }

  int track(int what) {
    if (!among(what, 1)) {
      return no(-2);
    }
    if (row.size() % 2 == 1) {
      return no(-3);
    }
    int bits = 0;
    int unfit = -9;
    for (int i = 0; i < row.size() / 2; i++) {
      int fit = 0;
      for (int l = 0; l < 8; l++) {
        fit |= now.wind[l][0] + 50 == row.get(2 * i) && now.wind[l][1] == row.get(2 * i + 1) ? 1 << l : 0;
      }
      bits |= fit;
      unfit = unfit == -9 && fit == 0 ? i : unfit;
    }
    return what == 0 ? bits : unfit;
  }

  int row(int v) {
    if (v < 0) {
      return no(-4);
    }
    if (v > 99 || row.size() == 12) {
      return no(-6);
    }
    row.add(v);
    return row.size();
  }

  private int unlike(Sky from) {
    Sky s = from.copy();
    for (int i = 0; i < row.size(); i++) {
      s.holdStep();
      if (s.height != row.get(i)) {
        return i;
      }
    }
    return -9;
  }

  int judge() {
    int answer = unlike(now);
    row.clear();
    return answer;
  }

  int clear() {
    int had = row.size();
    row.clear();
    return had;
  }

  int lots(int n, int z, int what) {
    if (n < 1 || n > 20) {
      return no(n < 1 ? -4 : -6);
    }
    if (!among(what, 1)) {
      return no(-2);
    }
    long seed = z & 0xffffffffL;
    int in = 0;
    int costs = 0;
    for (int i = 0; i < n; i++) {
      Sky s = now.copy();
      int steps = 0;
      do {
        seed = seed * 1103515245L + 12345L & 0xffffffffL;
        s.stepIfAble((int) (seed % (1L << 31) / 65536 % 3));
        steps++;
      } while (s.height > 0 && steps < 40);
      costs += s.height > 0 ? 40 : s.costHere();
      in += s.height == 0 && s.fieldAt() != -9 ? 1 : 0;
    }
    return what == 0 ? in : costs;
  }

  int crew(int what) {
    if (!among(what, 1)) {
      return no(-2);
    }
    int[] best = {-9, -9};
    for (int q = 6; q >= 1; q--) {
      Sky s = now.copy();
      s.people = q;
      int[] plan = bestPlan(s);
      if (plan != null && (best[0] == -9 || plan[6] <= best[1])) {
        best = new int[] {q, plan[6]};
      }
    }
    return best[what];
  }

  int whichLag() {
    int bits = 0;
    for (int lag = 0; lag <= 5; lag++) {
      Sky s = now.copy();
      if (lag != now.lag) {
        s.loseWork(lag);
      }
      bits |= unlike(s) == -9 ? 1 << lag : 0;
    }
    return bits;
  }

  int windFor(int field, int k, int p, int what) {
    if (noField(field)) {
      return no(-1);
    }
    if (noPlan(k, p) != 0) {
      return no(noPlan(k, p));
    }
    if (!among(what, 1)) {
      return no(-2);
    }
    List<Integer> fitting = new ArrayList<>();
    for (int side = -9; side <= 9; side++) {
      Sky s = now.copy();
      s.wind[now.height / 5][0] = side;
      int[] end = fly(s, k, p);
      if (end != null && end[4] == field) {
        fitting.add(side);
      }
    }
    return what == 0 ? fitting.size() : fitting.isEmpty() ? -9 : fitting.get(0) + 9;
  }

  int span(int field, int p, int what) {
    if (noField(field)) {
      return no(-1);
    }
    if (p < 0 || p > 5) {
      return no(p < 0 ? -4 : -6);
    }
    if (!among(what, 1)) {
      return no(-2);
    }
    int[] ends = {-9, -9};
    for (int k = 30; k >= 0; k--) {
      int[] end = fly(now, k, p);
      if (end != null && end[4] == field) {
        ends[0] = k;
        ends[1] = Math.max(ends[1], k);
      }
    }
    return ends[what];
  }

  int flown(int what) {
    if (!among(what, 4)) {
      return no(-2);
    }
    Sky s = now.copy();
    for (int v : row) {
      s.stepIfAble(v % 3);
    }
    return new int[] {s.height, s.x, s.y, s.heat, s.gas}[what];
  }

  int ceiling(int what) {
    if (!among(what, 1)) {
      return no(-2);
    }
    Sky s = now.copy();
    List<Integer> heights = new ArrayList<>(List.of(s.height));
    for (int i = 0; i < 60; i++) {
      s.stepIfAble(1);
      heights.add(s.height);
    }
    int most = Collections.max(heights);
    return what == 0 ? most : heights.indexOf(most);
  }

  int game(int what) {
    if (!among(what, 2)) {
      return no(-2);
    }
    int[][] loss = new int[3][2];
    for (int c = 0; c < 3; c++) {
      for (int a = 0; a < 2; a++) {
        Sky s = now.copy();
        for (int[] wind : s.wind) {
          wind[0] *= a == 0 ? 1 : -1;
        }
        int[] end = fly(s, 5 * c, 1);
        loss[c][a] = end == null ? 40 : end[5];
      }
    }
    int sure = Integer.MAX_VALUE;
    int pair = -9;
    for (int c = 2; c >= 0; c--) {
      sure = Math.min(sure, Math.max(loss[c][0], loss[c][1]));
      for (int a = 1; a >= 0; a--) {
        boolean steady = loss[c][a] >= loss[c][1 - a];
        for (int[] others : loss) {
          steady &= loss[c][a] <= others[a];
        }
        pair = steady ? 10 * c + a : pair;
      }
    }
    return what == 2 ? sure : what == 0 || pair == -9 ? pair : loss[pair / 10][pair % 10];
  }

  int another(int k, int p, int q) {
    if (k < 0 || p < 0 || q < 1) {
      return no(-4);
    }
    if (k > 30 || p > 5 || q > 6) {
      return no(-6);
    }
    Sky s = now.copy();
    s.people = q;
    int[] one = fly(now, k, p);
    int[] two = fly(s, k, p);
    return one == null || two == null ? -9 : Math.abs(one[0] - two[0]) + Math.abs(one[1] - two[1]);
  }

  int chase(int k, int p, int what) {
    if (noPlan(k, p) != 0) {
      return no(noPlan(k, p));
    }
    if (!among(what, 1)) {
      return no(-2);
    }
    int[] end = fly(now, k, p);
    if (end == null) {
      return -9;
    }
    int near = 0;
    for (int place = 7; place >= 0; place--) {
      near = Math.abs(100 * place - end[0]) <= Math.abs(100 * near - end[0]) ? place : near;
    }
    int minutes = orNone(now.ways(now.car)[near]);
    return what == 0 || minutes == -9 ? minutes : 6 * minutes <= end[3] ? 1 : 0;
  }

  /** All orders of the PLACES that are left; best holds the fewest MINUTES and the first of the order. */
  private void tours(int at, int left, int minutes, int first, int[] best) {
    if (left == 0) {
      if (minutes < best[0] || (minutes == best[0] && first < best[1])) {
        best[0] = minutes;
        best[1] = first;
      }
      return;
    }
    int[] far = now.ways(at);
    for (int next = 0; next < 8; next++) {
      if ((left >> next & 1) == 1 && far[next] < 1000000) {
        tours(next, left & ~(1 << next), minutes + far[next], first == -9 ? next : first, best);
      }
    }
  }

  int tour(int places, int what) {
    if (places < 0 || places > 255) {
      return no(places < 0 ? -4 : -6);
    }
    if (!among(what, 1)) {
      return no(-2);
    }
    int[] best = {1000000, -9};
    tours(now.car, places & ~(1 << now.car), 0, -9, best);
    return what == 0 ? orNone(best[0]) : best[1];
  }

  int twoCars(int other) {
    if (!eight(other)) {
      return no(-1);
    }
    int bits = 0;
    for (int i = 0; i < 8; i++) {
      bits |= now.ways(other)[i] < now.ways(now.car)[i] ? 1 << i : 0;
    }
    return bits;
  }

  int image() {
    picture = now.copy();
    return now.step;
  }

  int restore() {
    if (picture == null) {
      return no(-3);
    }
    now = picture.copy();
    past.clear();
    return now.step;
  }

  int count(int what) {
    int[] counts = {now.fields.size(), now.height, now.x, now.y, now.heat, now.gas, now.people, now.lag, now.step,
        letters.length(), row.size(), refusals[1], refusals[2], refusals[3], refusals[4], refusals[5], refusals[6],
        now.car, past.size()};
    return what < 0 || what >= counts.length ? -9 : counts[what];
  }
}
