/** Promises 13 to 23, 30, 32 and 34 to 42: what is in mind of the flight. */
public final class PlanPromisesTest {
  private static final int MIN = Integer.MIN_VALUE;
  private static final int MAX = Integer.MAX_VALUE;
  private static final Check check = new Check();

  /** Falls from 5 to (108, 4) in 5 STEPS if nothing is done; without GAS all its PLANS are told by hand below. */
  private static final String FALLING = "w0+21;w1-13;b17304;l0;h05;";
  private static final String DRY = "w0+21;w1-13;b17004;l0;h05;";
  private static final String FOUR = Tale.field(0, 0, 102, 1, 1) + Tale.field(1, 0, 104, 2, 1)
      + Tale.field(2, 0, 106, 3, 1) + Tale.field(3, 0, 108, 4, 1);

  public static void main(String[] args) {
    plan();
    planWhenDown();
    planOfSixtySteps();
    planField();
    planRefused();
    had();
    hadSoftest();
    lastPlanAlone();
    firstPlanAlone();
    best();
    left();
    keep();
    goingOn();
    blown();
    two();
    twoRefused();
    swing();
    calm();
    out();
    track();
    judge();
    lots();
    crew();
    whichLag();
    windFor();
    span();
    flown();
    ceiling();
    game();
    another();
    nothingInMindChanges();
    check.end();
  }

  private static void plan() {
    DownAmongFences x = Tale.of(FALLING);
    int[][] plans = {{0, 0}, {0, 1}, {1, 0}};
    int[][] due = {{108, 4, 2, 5, -9, 40}, {104, 2, 2, 3, -9, 40}, {104, 16, 2, 9, -9, 40}};
    for (int i = 0; i < plans.length; i++) {
      for (int what = 0; what < 6; what++) {
        check.is("13: plan " + i + " " + what, x.plan(plans[i][0], plans[i][1], what), due[i][what]);
      }
    }
    x.set(2, 0);
    check.is("13: hold without gas", x.plan(1, 0, 0), 108);
    x = Tale.of(FALLING);
    x.set(1, 20);
    check.is("13: no fire at the balance", x.plan(1, 0, 3), 8);
    x.set(1, 19);
    check.is("13: fire below it", x.plan(1, 0, 3), 11);
    x = Tale.of("b17304;l2;h10;a1;");
    check.is("13: fire under way counts", x.plan(1, 0, 3), 9);
    x.set(1, 15);
    check.is("13: and is below the balance", x.plan(1, 0, 3), 12);
    x = Tale.of("b22304;l2;h10;a2;");
    check.is("13: a pull under way counts", x.plan(1, 0, 3), 10);
    check.is("13: without hold", x.plan(0, 0, 3), 7);
  }

  private static void planWhenDown() {
    DownAmongFences x = Tale.of("b60304;", Tale.field(1, 0, 100, 0, 1));
    int[] due = {100, 0, 0, 0, 0, 5};
    for (int what = 0; what < 6; what++) {
      check.is("13: down it stays", x.plan(30, 5, what), due[what]);
    }
    x.set(0, 1);
    x.set(1, 14);
    x.go(0);
    check.is("13: landed just now", x.count(1), 0);
    check.is("13: it was down: no pace", x.plan(3, 3, 2), 0);
    check.is("13: no cost of it", x.plan(3, 3, 5), 5);
    x = Tale.of("b14304;l5;h02;w0+11;");
    check.is("13: down in between it stays", x.plan(30, 0, 3), 2);
    check.is("13: down in between", x.plan(30, 0, 0), 101);
    check.is("13: its pace", x.plan(30, 5, 2), 2);
  }

  private static void planOfSixtySteps() {
    DownAmongFences x = Tale.of("b54001;l0;h39;");
    check.is("13: behind 60", x.plan(0, 0, 3), 60);
    check.is("13: its pace", x.plan(0, 0, 2), 3);
    check.is("13: hold is nothing without gas", x.plan(30, 0, 3), 60);
    x.set(1, 55);
    for (int what = 0; what < 6; what++) {
      check.is("13: not within 60", x.plan(0, 0, what), -9);
    }
    check.is("13: with a pull", x.plan(0, 1, 3), 56);
    check.is("13: plan 30 0", x.plan(30, 0, 0), -9);
    for (int i = 0; i < 400; i++) {
      x.go(0);
    }
    x.set(0, 39);
    x.set(1, 54);
    check.is("13: step aside", x.plan(0, 0, 3), 60);
  }

  private static void planField() {
    DownAmongFences x = Tale.of(FALLING, Tale.field(0, 0, 103, 0, 5), Tale.field(1, 0, 104, 0, 5),
        Tale.field(0, 0, 105, 1, 4));
    check.is("13: outside of 0, in 1 at its edges", x.plan(0, 0, 4), 1);
    check.is("13: its cost", x.plan(0, 0, 5), 7);
    check.is("13: of several the least number", x.plan(0, 1, 4), 0);
    check.is("13: its cost", x.plan(0, 1, 5), 2);
    x = Tale.of(FALLING, Tale.field(2, 0, 108, 4, 1));
    check.is("13: the nearest left corner", x.plan(0, 0, 4), 0);
    x = Tale.of(FALLING, Tale.field(2, 0, 109, 0, 9), Tale.field(2, 0, 100, 5, 9),
        Tale.field(2, 0, 98, 0, 10), Tale.field(2, 0, 108, 0, 4));
    check.is("13: beside all", x.plan(0, 0, 4), -9);
    x = Tale.of("w0+50;b17104;l0;h05;", Tale.field(4, 0, 120, 0, 1), Tale.field(4, 0, 110, 0, 2));
    check.is("13: short is where", x.plan(0, 0, 0), 120);
    check.is("13: short, drag 15", x.plan(0, 0, 5), 22);
    x.set(3, 6);
    check.is("13: six, short is where", x.plan(0, 0, 0), 110);
    check.is("13: six, drag 11 of 20", x.plan(0, 0, 5), 2);
  }

  private static void planRefused() {
    DownAmongFences x = new DownAmongFences();
    int[][] plans = {{-1, 9, 9}, {31, -1, 0}, {MIN, 0, 0}, {31, 0, 9}, {0, 6, 0}, {MAX, 0, 0}, {0, MAX, 0}, {0, 0, 6},
        {30, 5, -1}};
    int[] due = {-4, -4, -4, -6, -6, -6, -6, -2, -2};
    for (int i = 0; i < plans.length; i++) {
      check.is("13: refused " + i, x.plan(plans[i][0], plans[i][1], plans[i][2]), due[i]);
      check.is("43: refused " + i, x.chase(plans[i][0], plans[i][1], plans[i][2]), due[i]);
    }
    check.is("13: refusals", x.count(14) * 100 + x.count(16) * 10 + x.count(12), 684);
    check.is("43: what 2", x.chase(0, 0, 2), -2);
  }

  private static void had() {
    DownAmongFences x = Tale.of(DRY, FOUR, Tale.field(0, 0, 103, 1, 2));
    int[][] due = {{4, 2, 2}, {6, 1, 1}, {10, 21, 21}, {166, 0, 0}, {0, -9, -9}};
    for (int field = 0; field < 5; field++) {
      for (int what = 0; what < 3; what++) {
        check.is("14: had(" + field + ", " + what + ")", x.had(field, what), due[field][what]);
      }
    }
    check.is("14: no field", x.had(5, 3), -1);
    check.is("14: no field", x.had(-1, 0), -1);
    check.is("14: what 3", x.had(0, 3), -2);
    check.is("14: what -1", x.had(0, -1), -2);
    x = Tale.of(Tale.field(0, 0, 100, 0, 1));
    check.is("14: down in it", x.had(0, 0), 186);
    check.is("14: down in it", x.had(0, 1) + x.had(0, 2), 0);
  }

  private static void hadSoftest() {
    DownAmongFences x = Tale.of("b17004;l0;h05;", Tale.field(0, 0, 100, 0, 1));
    check.is("14: all are in it", x.had(0, 0), 186);
    check.is("14: the first", x.had(0, 1), 0);
    check.is("14: none is softer", x.had(0, 2), 0);
    x.set(0, 3);
    check.is("14: soft, pace 1", x.plan(0, 0, 2), 1);
    x.set(0, 2);
    x.set(1, 13);
    check.is("14: pace 2 at first", x.plan(0, 0, 2), 2);
    check.is("14: hold without gas is no softer", x.had(0, 2), 0);
    x.set(2, 9);
    check.is("14: the first", x.had(0, 1), 0);
    check.is("14: pace 1 behind one step of hold", x.plan(1, 0, 2), 1);
    check.is("14: the softest", x.had(0, 2), 10);
  }

  /** Only PLAN (30, 5) comes DOWN at (134, 109), with six alone. */
  private static void lastPlanAlone() {
    DownAmongFences x = Tale.of("w7+09;w6+13;w5-15;w4+23;w3-22;w2+11;w1+11;w0+11;b20306;l0;h32;",
        Tale.field(0, 0, 900, 900, 1), Tale.field(0, 0, 134, 109, 1));
    check.is("13: there", x.plan(30, 5, 0) * 1000 + x.plan(30, 5, 1), 134109);
    check.is("14: one plan", x.had(1, 0), 1);
    check.is("14: the last of all", x.had(1, 1), 305);
    check.is("14: the last of all", x.had(1, 2), 305);
    check.is("15: the last of all", x.best(0), 305);
    check.is("15: twice pace 6", x.best(1), 12);
    check.is("16: that field", x.left(), 2);
    check.is("38: the first", x.span(1, 5, 0), 30);
    check.is("38: the last", x.span(1, 5, 1), 30);
    check.is("38: by one pull less", x.span(1, 4, 1), -9);
    check.is("35: all six", x.crew(0), 6);
    check.is("35: the cost", x.crew(1), 12);
    check.is("18: nothing is lost on the way to it", x.goingOn(20), 0);
    int least = x.keep(1);
    x.set(2, least);
    check.is("17: with so much", x.had(1, 0) > 0 ? 1 : 0, 1);
    x.set(2, least - 1);
    check.is("17: not with less", x.had(1, 0), 0);
  }

  /** Only PLAN (0, 0) comes DOWN at (109, 21). */
  private static void firstPlanAlone() {
    DownAmongFences x = Tale.of("w7+09;w6+13;w5-15;w4+23;w3-22;w2+11;w1+11;w0+11;b10301;l0;h25;",
        Tale.field(0, 0, 109, 21, 1));
    check.is("14: one plan", x.had(0, 0), 1);
    check.is("14: the first of all", x.had(0, 1), 0);
    check.is("15: the first of all", x.best(0), 0);
    check.is("15: pace 3", x.best(1), 3);
    check.is("16: field 0", x.left(), 1);
    check.is("17: none is needed", x.keep(0), 0);
    check.is("38: the first", x.span(0, 0, 0), 0);
    check.is("38: the last", x.span(0, 0, 1), 0);
  }

  private static void best() {
    DownAmongFences x = Tale.of(DRY, Tale.field(0, 0, 102, 1, 1), Tale.field(0, 0, 104, 2, 1), Tale.field(2, 0, 106, 3, 1),
        Tale.field(1, 0, 108, 4, 1));
    check.is("15: the best", x.best(0), 1);
    check.is("15: its cost", x.best(1), 2);
    x = Tale.of(DRY, Tale.field(0, 0, 102, 1, 1), Tale.field(0, 0, 106, 3, 1));
    check.is("15: of several the first", x.best(0), 2);
    check.is("15: its cost", x.best(1), 3);
    x = Tale.of(DRY);
    check.is("15: no fields", x.best(0), 0);
    check.is("15: outside of all", x.best(1), 40);
    check.is("15: what 2", x.best(2), -2);
    check.is("15: what -1", x.best(-1), -2);
  }

  private static void left() {
    DownAmongFences x = Tale.of(DRY, Tale.field(0, 0, 200, 0, 30), FOUR, Tale.field(0, 0, 108, 4, 1));
    check.is("16: four", x.left(), 30);
    x.set(0, 0);
    check.is("16: none from down here", x.left(), 0);
    String away = Tale.field(0, 0, 900, 900, 30);
    x = Tale.of(DRY, away, away, away, away, away, away, away, Tale.field(0, 0, 108, 4, 1));
    check.is("16: the eighth", x.left(), 128);
    check.is("16: none", new DownAmongFences().left(), 0);
  }

  private static void keep() {
    DownAmongFences x = Tale.of(FALLING, Tale.field(0, 0, 108, 4, 1), Tale.field(0, 0, 104, 16, 1),
        Tale.field(0, 0, 900, 900, 1));
    check.is("17: none is needed", x.keep(0), 0);
    check.is("17: one", x.keep(1), 1);
    check.is("17: never", x.keep(2), -9);
    x.set(2, 0);
    check.is("17: whatever there is now", x.keep(1), 1);
    check.is("17: gas as it was", x.count(5), 0);
    check.is("17: no field", x.keep(3), -1);
    check.is("17: no field", x.keep(-1), -1);
    x = Tale.of("w1+09;b17004;l0;h05;", Tale.field(0, 0, 100, 81, 9));
    check.is("17: two", x.plan(30, 0, 1), 0);
    x.set(2, 2);
    check.is("17: two lead on", x.plan(30, 0, 1), 72);
    check.is("17: more than two", x.keep(0), 3);
    x = Tale.of("b60004;h10;", Tale.field(0, 0, 100, 0, 1));
    check.is("17: without any", x.keep(0), 0);
  }

  private static void goingOn() {
    DownAmongFences x = Tale.of(DRY, Tale.field(0, 0, 108, 4, 1));
    check.is("18: now", x.goingOn(0), 0);
    check.is("18: nothing lost", x.goingOn(4), 0);
    check.is("18: down by then, no pace", x.goingOn(5), -2);
    x = Tale.of(DRY, Tale.field(0, 0, 102, 1, 1));
    check.is("18: too late then", x.goingOn(1), 37);
    x = Tale.of("b60304;l0;w7+11;", Tale.field(0, 0, 100, 0, 1));
    check.is("18: up again from being down", x.goingOn(20), 40);
    check.is("18: below", x.goingOn(-1), 1000000004);
    check.is("18: above", x.goingOn(21), 1000000006);
    check.is("18: least", x.goingOn(MIN), 1000000004);
    check.is("18: most", x.goingOn(MAX), 1000000006);
    check.is("18: refusals", x.count(14) * 10 + x.count(16), 22);
  }

  private static void blown() {
    DownAmongFences x = new DownAmongFences();
    check.is("19: of all alike the lowest", x.blown(0) + x.blown(1) + x.blown(2), 0);
    Tale.tell(x, "w0-10;w1-33;w2-33;w3-23;w4-20;w5-20;w6-20;w7-20;");
    check.is("19: right", x.blown(0), 0);
    check.is("19: left", x.blown(1), 1);
    check.is("19: ahead", x.blown(2), 1);
    Tale.tell(x, "w5+34;w6+34;w7-90;");
    check.is("19: right", x.blown(0), 5);
    check.is("19: left", x.blown(1), 7);
    check.is("19: ahead", x.blown(2), 5);
    check.is("19: what 3", x.blown(3), -2);
    check.is("19: what -1", x.blown(-1), -2);
    check.is("19: refusals", x.count(12), 2);
  }

  private static void two() {
    DownAmongFences x = Tale.of("w0+10;w1+01;w2-32;");
    int[][] ways = {{0, 0}, {3, 4}, {2, 0}, {0, 2}, {40, 0}, {41, 0}, {20, 20}, {20, 21}, {-6, 4}, {-5, 4}, {-3, 3},
        {-1, 0}, {99, 0}, {-99, 66}};
    int[] steps = {0, 7, 2, 2, 40, -9, 40, -9, 2, 3, 2, -9, -9, 33};
    int[] which = {0, 1003, 0, 1000, 0, -9, 1020, -9, 2000, 2001, 12001, -9, -9, 2000};
    for (int i = 0; i < ways.length; i++) {
      check.is("20: steps " + i, x.two(ways[i][0], ways[i][1], 0), steps[i]);
      check.is("20: layers " + i, x.two(ways[i][0], ways[i][1], 1), which[i]);
    }
    x = Tale.of("w7-99;w6+10;");
    check.is("20: the last layers", x.two(-8, 9, 1), 67001);
    check.is("20: 40 in all", x.two(-99, 99, 0), 11);
  }

  private static void twoRefused() {
    DownAmongFences x = new DownAmongFences();
    int[][] ways = {{-100, 100, 9}, {100, -1, 9}, {MIN, 0, 0}, {100, 0, 9}, {0, 100, 9}, {MAX, MAX, 0}, {0, 0, 2},
        {-99, 0, -1}};
    int[] due = {-4, -4, -4, -6, -6, -6, -2, -2};
    for (int i = 0; i < ways.length; i++) {
      check.is("20: refused " + i, x.two(ways[i][0], ways[i][1], ways[i][2]), due[i]);
    }
    check.is("20: refusals", x.count(12) * 100 + x.count(14) * 10 + x.count(16), 233);
    check.is("20: least and most are taken", x.two(-99, 99, 0) + x.two(99, 0, 1), -18);
  }

  private static void swing() {
    DownAmongFences x = Tale.of("b25601;l0;h15;");
    check.is("21: at first", x.swing(0), 3);
    check.is("21: later", x.swing(1), 8);
    check.is("21: it grows", x.swing(2), 1);
    x = Tale.of("b00601;l0;h20;");
    check.is("21: at first", x.swing(0), 9);
    check.is("21: later", x.swing(1), 14);
    x.set(2, 3);
    check.is("21: fire without gas is nothing", x.swing(0), 20);
    check.is("21: it does not grow", x.swing(2), 0);
    x = Tale.of("b40304;l0;");
    check.is("21: up from being down", x.swing(0) > 0 ? 1 : 0, 1);
    check.is("21: what 3", x.swing(3), -2);
    check.is("21: what -1", x.swing(-1), -2);
  }

  private static void calm() {
    int[][] heats = {{0, 0, 1}, {0, 10, 2}, {0, 20, 3}, {1, 35, 4}, {5, 35, 5}, {7, 35, 6}, {8, 35, 7}, {25, 15, 8},
        {9, 35, 9}, {10, 35, -9}};
    for (int[] heat : heats) {
      DownAmongFences x = new DownAmongFences();
      x.set(4, 0);
      x.set(3, 1);
      x.set(2, 60);
      x.set(1, heat[0]);
      x.set(0, heat[1]);
      check.is("22: calm at heat " + heat[0], x.calm(), heat[2]);
    }
    check.is("22: at rest", new DownAmongFences().calm(), 1);
  }

  private static void out() {
    int[][] cases = {{20, 4, 1}, {21, 4, 1}, {22, 4, 0}, {19, 4, 2}, {15, 4, 4}, {16, 4, 3}, {0, 6, 6}, {60, 6, 0},
        {12, 1, 1}, {15, 1, 1}, {16, 1, 0}, {40, 4, 0}};
    for (int[] c : cases) {
      DownAmongFences x = new DownAmongFences();
      x.set(1, c[0]);
      x.set(3, c[1]);
      check.is("23: out at heat " + c[0], x.out(), c[2]);
      x.set(0, 1);
      check.is("23: not down", x.out(), -9);
    }
  }

  private static void track() {
    DownAmongFences x = Tale.of("w0+21;w3-95;w5+21;w7+90;");
    Tale.row(x, 52, 1, 41, 5, 59, 0);
    check.is("30: layers", x.track(0), 1 + 8 + 32 + 128);
    check.is("30: all fit", x.track(1), -9);
    Tale.row(x, 41, 5, 52, 2, 53, 1, 50, 0);
    check.is("30: layers", x.track(0), 8 + 2 + 4 + 16 + 64);
    check.is("30: the first that fits none", x.track(1), 1);
    check.is("30: the row stays", x.count(10), 8);
    Tale.row(x, 0, 0);
    check.is("30: none", x.track(0), 0);
    check.is("30: the first", x.track(1), 0);
    Tale.row(x, 50, 0, 50);
    check.is("30: an unwhole pair", x.track(0), -3);
    check.is("30: what comes first", x.track(2), -2);
    check.is("30: what -1", x.track(-1), -2);
    x.clear();
    check.is("30: no pairs", x.track(0) * 10 + x.track(1), -9);
  }

  private static void judge() {
    DownAmongFences x = Tale.of("b17304;l2;h05;a1;");
    Tale.row(x, 3, 3, 3);
    check.is("32: just so", x.judge(), -9);
    check.is("32: none in the row then", x.count(10), 0);
    Tale.row(x, 3, 3, 4, 9);
    check.is("32: the third", x.judge(), 2);
    check.is("32: none in the row then", x.count(10), 0);
    Tale.row(x, 4);
    check.is("32: the first", x.judge(), 0);
    check.is("32: none", x.judge(), -9);
    check.is("32: in mind", x.count(1), 4);
    x = Tale.of("b60304;l0;");
    Tale.row(x, 9, 18, 27, 36, 39, 39, 39, 39, 39, 39, 39, 39);
    check.is("32: up from being down, twelve", x.judge(), -9);
  }

  private static void lots() {
    DownAmongFences x = Tale.of(FALLING, Tale.field(0, 0, 105, 3, 4));
    check.is("34: in a field", x.lots(6, 1, 0), 5);
    check.is("34: all costs", x.lots(6, 1, 1), 50);
    check.is("34: none", x.lots(6, 7, 0), 0);
    check.is("34: none", x.lots(6, 7, 1), 240);
    check.is("34: a seed below 0", x.lots(6, -5, 0), 3);
    check.is("34: a seed below 0", x.lots(6, -5, 1), 128);
    check.is("34: one", x.lots(1, 1, 1), 1);
    x = Tale.of("w0+21;w1-13;b19304;l0;", Tale.field(0, 0, 100, 0, 1));
    check.is("34: down behind the first step", x.lots(3, 1, 0) * 10 + x.lots(3, 1, 1), 30);
    x = Tale.of("b60604;l5;h39;", Tale.field(0, 0, 100, 0, 1));
    check.is("34: not down in 40", x.lots(1, 1, 0), 0);
    check.is("34: not down in 40", x.lots(2, 1, 1), 80);
    x = Tale.of("b19004;l0;", Tale.field(0, 0, 100, 0, 1));
    check.is("34: fire without gas", x.lots(20, 99, 0), 20);
    int[][] calls = {{0, 2}, {MIN, 0}, {21, 2}, {MAX, 0}, {20, 2}, {1, -1}};
    int[] due = {-4, -4, -6, -6, -2, -2};
    for (int i = 0; i < calls.length; i++) {
      check.is("34: refused " + i, x.lots(calls[i][0], MIN, calls[i][1]), due[i]);
    }
  }

  private static void crew() {
    DownAmongFences x = Tale.of(DRY, Tale.field(0, 0, 102, 22, 1));
    check.is("35: one alone comes there", x.crew(0), 1);
    check.is("35: the cost", x.crew(1), 2);
    x = Tale.of(DRY, Tale.field(0, 0, 108, 4, 1));
    check.is("35: four", x.crew(0), 4);
    check.is("35: the cost", x.crew(1), 2);
    check.is("35: in mind", x.count(6), 4);
    x = Tale.of(DRY);
    check.is("35: of several the fewest", x.crew(0), 1);
    check.is("35: outside", x.crew(1), 40);
    check.is("35: what 2", x.crew(2), -2);
    check.is("35: what -1", x.crew(-1), -2);
  }

  private static void whichLag() {
    DownAmongFences x = Tale.of(FALLING);
    check.is("36: no row", x.whichLag(), 63);
    Tale.row(x, 5);
    check.is("36: at once", x.whichLag(), 1);
    Tale.row(x, 4);
    check.is("36: all others", x.whichLag(), 62);
    Tale.row(x, 6);
    check.is("36: none", x.whichLag(), 0);
    x = Tale.of("b17304;l2;h05;a1;");
    Tale.row(x, 3, 3);
    check.is("36: what is under way is lost with another one", x.whichLag(), 6);
    check.is("36: the row stays", x.count(10), 2);
    check.is("36: in mind", x.count(7), 2);
    Tale.row(x, 3, 3);
    check.is("36: work stays", x.judge(), -9);
  }

  private static void windFor() {
    DownAmongFences x = Tale.of("w0+21;b16004;l0;h04;", Tale.field(0, 0, 94, 0, 10),
        Tale.field(0, 0, 108, 4, 1));
    check.is("37: how many", x.windFor(0, 0, 0, 0), 4);
    check.is("37: the least", x.windFor(0, 0, 0, 1), 7);
    check.is("37: none", x.windFor(1, 0, 0, 0), 0);
    check.is("37: none", x.windFor(1, 0, 0, 1), -9);
    check.is("37: in mind", x.layer(0, 0), 2);
    x.set(0, 5);
    x.set(1, 17);
    check.is("37: another layer now", x.windFor(1, 0, 0, 0), 19);
    check.is("37: another layer now", x.windFor(1, 0, 0, 1), 0);
    int[][] calls = {{2, -1, 0, 0}, {-1, 0, 0, 0}, {0, -1, 6, 0}, {0, 31, -1, 0}, {0, 31, 0, 9}, {0, 0, 6, 9},
        {0, 30, 5, 2}, {0, 0, 0, -1}};
    int[] due = {-1, -1, -4, -4, -6, -6, -2, -2};
    for (int i = 0; i < calls.length; i++) {
      check.is("37: refused " + i, x.windFor(calls[i][0], calls[i][1], calls[i][2], calls[i][3]), due[i]);
    }
  }

  private static void span() {
    DownAmongFences x = Tale.of(DRY, FOUR);
    int[][] cases = {{0, 1, -9, -9}, {0, 2, 0, 0}, {1, 1, 0, 1}, {1, 2, 1, 1}, {2, 1, 2, 3}, {2, 0, -9, -9},
        {3, 0, 0, 30}, {3, 1, 4, 30}, {2, 5, 2, 3}};
    for (int[] c : cases) {
      check.is("38: first of " + c[0] + " by " + c[1], x.span(c[0], c[1], 0), c[2]);
      check.is("38: last of " + c[0] + " by " + c[1], x.span(c[0], c[1], 1), c[3]);
    }
    int[][] calls = {{4, -1, 9}, {-1, 0, 0}, {0, -1, 9}, {0, MIN, 0}, {0, 6, 9}, {0, MAX, 0}, {0, 0, 2}, {0, 5, -1}};
    int[] due = {-1, -1, -4, -4, -6, -6, -2, -2};
    for (int i = 0; i < calls.length; i++) {
      check.is("38: refused " + i, x.span(calls[i][0], calls[i][1], calls[i][2]), due[i]);
    }
  }

  private static void flown() {
    DownAmongFences x = Tale.of(FALLING);
    int[] now = {5, 100, 0, 17, 30};
    int[] then = {0, 105, 6, 10, 28};
    for (int what = 0; what < 5; what++) {
      check.is("39: no acts " + what, x.flown(what), now[what]);
    }
    Tale.row(x, 1, 2, 3, 4, 5);
    for (int what = 0; what < 5; what++) {
      check.is("39: flown " + what, x.flown(what), then[what]);
    }
    check.is("39: the row stays", x.count(10), 5);
    x.set(2, 1);
    check.is("39: fire without gas", x.flown(4), 0);
    check.is("39: fire without gas", x.flown(3), 6);
    check.is("39: what 5", x.flown(5), -2);
    check.is("39: what -1", x.flown(-1), -2);
    x = Tale.of("b40304;l0;");
    Tale.row(x, 99);
    check.is("39: up from being down", x.flown(0), 4);
  }

  private static void ceiling() {
    DownAmongFences x = Tale.of("b17054;l0;h05;");
    check.is("40: the height", x.ceiling(0), 23);
    check.is("40: steps", x.ceiling(1), 13);
    x.set(2, 1);
    check.is("40: where it is", x.ceiling(0), 5);
    check.is("40: no step", x.ceiling(1), 0);
    x = Tale.of("b00606;l5;h39;");
    check.is("40: at most", x.ceiling(0) * 100 + x.ceiling(1), 3900);
    x = Tale.of("b60606;l0;h30;");
    check.is("40: the fewest to it", x.ceiling(0) * 100 + x.ceiling(1), 3901);
    check.is("40: what 2", x.ceiling(2), -2);
    check.is("40: what -1", x.ceiling(-1), -2);
  }

  private static void game() {
    DownAmongFences x = Tale.of(DRY, Tale.field(0, 0, 104, 2, 1), Tale.field(2, 1, 96, 2, 1),
        Tale.field(3, 4, 108, 4, 1), Tale.field(1, 0, 92, 4, 1));
    check.is("41: the pair", x.game(0), 1);
    check.is("41: cost by it", x.game(1), 5);
    check.is("41: sure", x.game(2), 5);
    x = Tale.of(DRY, Tale.field(0, 0, 104, 2, 1), Tale.field(1, 0, 96, 2, 1), Tale.field(3, 4, 108, 4, 1),
        Tale.field(3, 1, 92, 4, 1));
    check.is("41: no pair", x.game(0), -9);
    check.is("41: no cost by it", x.game(1), -9);
    check.is("41: sure", x.game(2), 6);
    x = Tale.of(DRY, Tale.field(0, 0, 108, 4, 1), Tale.field(0, 0, 92, 4, 1));
    check.is("41: the second choice", x.game(0), 10);
    check.is("41: cost by it", x.game(1), 2);
    x = Tale.of("b60001;l0;h39;", Tale.field(0, 0, 100, 0, 1));
    check.is("41: not down", x.game(0), 0);
    check.is("41: not down costs 40", x.game(1) + x.game(2), 80);
    check.is("41: what 3", x.game(3), -2);
    check.is("41: what -1", x.game(-1), -2);
  }

  private static void another() {
    DownAmongFences x = Tale.of(DRY);
    check.is("42: one alone", x.another(0, 0, 1), 24);
    check.is("42: as many", x.another(0, 0, 4), 0);
    check.is("42: six", x.another(0, 0, 6), 6);
    check.is("42: in mind", x.count(6), 4);
    x = Tale.of("b55001;l0;h39;");
    check.is("42: this one is not down", x.another(0, 0, 6), -9);
    x.set(3, 6);
    check.is("42: the other is not", x.another(0, 0, 1), -9);
    int[][] calls = {{-1, 9, 9}, {31, -1, 9}, {31, 9, 0}, {MIN, 0, 1}, {31, 0, 1}, {0, 6, 1}, {0, 0, 7}, {MAX, 0, 1}};
    int[] due = {-4, -4, -4, -4, -6, -6, -6, -6};
    for (int i = 0; i < calls.length; i++) {
      check.is("42: refused " + i, x.another(calls[i][0], calls[i][1], calls[i][2]), due[i]);
    }
    check.is("42: refusals", x.count(14) * 10 + x.count(16), 44);
  }

  private static void nothingInMindChanges() {
    DownAmongFences x = Tale.of(FALLING, Tale.field(0, 0, 105, 3, 4), "l2;a1;");
    Tale.row(x, 1, 2, 0);
    x.go(2);
    String was = Tale.state(x);
    for (int what = 0; what < 6; what++) {
      x.plan(7, 2, what);
      x.had(0, what);
      x.best(what);
      x.left();
      x.keep(0);
      x.goingOn(7);
      x.swing(what);
      x.calm();
      x.out();
      x.lots(3, what, 1);
      x.crew(what);
      x.whichLag();
      x.windFor(0, 5, 1, what);
      x.span(0, 1, what);
      x.flown(what);
      x.ceiling(what);
      x.game(what);
      x.another(3, 1, 2);
      x.chase(3, 1, what);
    }
    check.holds("II: in mind alone", Tale.state(x).equals(was));
    Tale.row(x, 3, 3);
    check.is("II: what is under way too", x.judge(), 1);
  }
}
