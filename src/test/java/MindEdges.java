import java.util.Arrays;
import java.util.function.Supplier;
import java.util.function.ToIntFunction;

/** Part II of the document, the flight: PLANS, FIELDS that can be HAD, SWING, LOTS and what can be TAKEN BACK. */
final class MindEdges {
  private static final String WINDS = "w0+11;w1+22;w2-33;w3+45;w4-15;w5+26;w6-37;w7+48;";
  /** Falls and never rises; each PLAN of it is known by hand: 8 squares to the right without a PULL, in 5 STEPS. */
  private static final String DRY = "w0+21;w1-13;b17004;l0;h05;";

  /** By PLAN (30, 5) alone it comes DOWN at (134, 109). */
  private static final String BY_LAST = "w7+09;w6+13;w5-15;w4+23;w3-22;w2+11;w1+11;w0+11;b20306;l0;h32;";
  /** By PLAN (0, 0) alone it comes DOWN at (109, 21). */
  private static final String BY_FIRST = "w7+09;w6+13;w5-15;w4+23;w3-22;w2+11;w1+11;w0+11;b10301;l0;h25;";

  private final Sentences doc;
  private final Check check;

  MindEdges(Sentences doc, Check check) {
    this.doc = doc;
    this.check = check;
  }

  void all() {
    doc.in("I");
    doc.says("0 nothing", () -> check.is("nothing", Tale.of("b40304;l0;h09;").go(0), 13));
    doc.in("II");
    fromNow();
    hold();
    plan();
    planAtSixty();
    planStays();
    planTold();
    had();
    best();
    left();
    keep();
    goingOn();
    blown();
    two();
    swing();
    calm();
    out();
    judged();
    lots();
    draws();
    takenBack();
  }

  private void fromNow() {
    doc.says("In mind, from now (STEP aside)", () -> {
      int[][] states = {{39, 23, 0, 4, 0}, {0, 20, 30, 4, 2}, {10, 33, 8, 1, 0}, {35, 10, 60, 1, 0}, {20, 30, 30, 3, 5},
          {5, 17, 0, 4, 0}, {0, 60, 60, 1, 0}};
      DownAmongFences x = landed();
      for (int[] state : states) {
        DownAmongFences y = landed();
        for (int what = 0; what < 5; what++) {
          x.set(what, state[what]);
          y.set(what, state[what]);
        }
        check.holds("what was asked of another now does not count", inMind(x).equals(inMind(y)));
        check.holds("what was asked of this one neither", inMind(x).equals(inMind(y)));
      }
      DownAmongFences y = landed();
      for (int what = 0; what < 5; what++) {
        y.set(what, states[states.length - 1][what]);
      }
      check.holds("nothing is different by it", Tale.state(x).equals(Tale.state(y)));
    });
  }

  private static DownAmongFences landed() {
    return Tale.of(Tale.field(0, 0, 108, 4, 20) + Tale.field(1, 2, 90, 0, 30), "w0+21;w1-13;");
  }

  /** What calls in mind answer, the last ones first, so that one is asked when others were. */
  private static String inMind(DownAmongFences x) {
    StringBuilder all = new StringBuilder();
    for (int what = 2; what >= 0; what--) {
      all.append(x.swing(what)).append(' ').append(x.had(1, what)).append(' ').append(x.game(what)).append(' ');
    }
    for (int what = 1; what >= 0; what--) {
      all.append(x.lots(3, 5, what)).append(' ').append(x.ceiling(what)).append(' ').append(x.best(what)).append(' ');
      all.append(x.crew(what)).append(' ').append(x.span(0, 1, what)).append(' ').append(x.plan(3, 1, what)).append(' ');
    }
    return all.append(x.calm()).append(' ').append(x.goingOn(5)).append(' ').append(x.keep(0)).toString();
  }

  /** A balloon at HEIGHT 30 over winds that tell where it went. */
  private static DownAmongFences floating(int lag, int heat, int gas, int people, String acts) {
    DownAmongFences x = Tale.of(WINDS, "l" + lag + ";h20;" + acts);
    x.set(1, heat);
    x.set(2, gas);
    x.set(3, people);
    x.set(0, 30);
    return x;
  }

  /** One STEP of HOLD is this ACT: a PLAN with it ends as that without it, once the ACT is gone, and not as the other. */
  private void holdIs(int act, Supplier<DownAmongFences> make) {
    DownAmongFences x = make.get();
    DownAmongFences y = make.get();
    DownAmongFences other = make.get();
    y.go(act);
    boolean able = other.go(1 - act) >= 0;
    boolean differs = false;
    for (int what = 0; what < 4; what++) {
      int one = what == 3 ? 1 : 0;
      check.is("what " + what, x.plan(1, 0, what), one + y.plan(0, 0, what));
      differs |= x.plan(1, 0, what) != one + other.plan(0, 0, what);
    }
    check.holds("not as behind the other act", differs || !able);
  }

  private void hold() {
    doc.says("HOLD: each STEP FIRE, if HEAT and all WORK under way are below BALANCE", () -> {
      holdIs(1, () -> floating(0, 19, 30, 4, ""));
      holdIs(0, () -> floating(0, 20, 30, 4, ""));
      holdIs(1, () -> floating(0, 13, 30, 1, ""));
      holdIs(0, () -> floating(0, 14, 30, 1, ""));
      holdIs(1, () -> floating(0, 23, 30, 6, ""));
      holdIs(0, () -> floating(0, 24, 30, 6, ""));
      holdIs(1, () -> floating(2, 15, 30, 4, "a1;"));
      holdIs(0, () -> floating(2, 16, 30, 4, "a1;"));
      holdIs(1, () -> floating(2, 11, 30, 4, "a11;"));
      holdIs(0, () -> floating(2, 12, 30, 4, "a11;"));
      holdIs(1, () -> floating(2, 24, 30, 4, "a2;"));
      holdIs(0, () -> floating(2, 25, 30, 4, "a2;"));
      holdIs(1, () -> floating(2, 20, 30, 4, "a12;"));
      holdIs(0, () -> floating(2, 21, 30, 4, "a21;"));
      holdIs(1, () -> floating(5, 1, 30, 5, "a11111;"));
      holdIs(0, () -> floating(5, 2, 30, 5, "a11111;"));
      holdIs(1, () -> floating(1, 19, 30, 4, "a10;"));
    });
    doc.says("and there is GAS, else nothing", () -> {
      holdIs(1, () -> floating(0, 10, 1, 4, ""));
      holdIs(0, () -> floating(0, 10, 0, 4, ""));
      holdIs(0, () -> floating(0, 30, 0, 4, ""));
    });
  }

  private void planIsGone(int k, int p, String land) {
    DownAmongFences x = Tale.of(WINDS, land);
    int[] due = Laws.gone(Tale.of(WINDS, land), k, p);
    for (int what = 0; what < 4; what++) {
      check.is("plan(" + k + ", " + p + ", " + what + ") of " + land, x.plan(k, p, what), due[what]);
    }
  }

  private void plan() {
    doc.says("A PLAN (k, p): HOLD for k STEPS (0 .. 30), p times PULL (0 .. 5), then nothing, till it is DOWN", () -> {
      String[] lands = {"b25304;l0;h30;", "b17034;l0;h05;", "b00606;l0;h39;", "b60601;l0;h20;", "b30002;l0;h10;"};
      for (String land : lands) {
        for (int k : new int[] {0, 1, 29, 30}) {
          for (int p : new int[] {0, 1, 4, 5}) {
            planIsGone(k, p, land);
          }
        }
      }
      DownAmongFences x = new DownAmongFences();
      check.is("k below", x.plan(-1, 0, 0), -4);
      check.is("k above", x.plan(31, 0, 0), -6);
      check.is("p below", x.plan(0, -1, 0), -4);
      check.is("p above", x.plan(0, 6, 0), -6);
    });
  }

  private void planAtSixty() {
    doc.says("(60 STEPS at most in all;", () -> {
      planIsGone(0, 0, "b54001;l0;h39;");
      check.is("in just 60", Tale.of("b54001;l0;h39;").plan(0, 0, 3), 60);
      check.is("hold is among them", Tale.of("b54001;l0;h39;").plan(30, 0, 3), 60);
      check.is("not in 60", Tale.of("b55001;l0;h39;").plan(0, 0, 3), -9);
      check.is("hold is among them", Tale.of("b55001;l0;h39;").plan(30, 0, 3), -9);
      check.is("by a pull", Tale.of("b55001;l0;h39;").plan(0, 1, 3), 56);
      check.is("by a pull behind hold", Tale.of("b55001;l0;h39;").plan(30, 1, 3), 56);
      // Each STEP above 0 goes one AHEAD, so that Y tells the STEPS but the last.
      String ahead = "w0+01;w1+01;w2+01;w3+01;w4+01;w5+01;w6+01;w7+01;";
      String behind60 = Tale.field(0, 0, 100, 59, 1);
      String behind61 = Tale.field(0, 0, 100, 60, 1);
      DownAmongFences x = Tale.of(ahead, "b54001;l0;h39;", behind60);
      check.is("by each hold without a pull", x.had(0, 0), 31);
      check.is("one left", x.left(), 1);
      check.is("kept", x.keep(0), 0);
      check.is("the best", x.best(1), 3);
      x = Tale.of(ahead, "b55001;l0;h39;", behind61);
      check.is("none is had", x.had(0, 0), 0);
      check.is("none is left", x.left(), 0);
      check.is("none is kept", x.keep(0), -9);
      check.is("the best is outside", x.best(1), 40);
      x = StateEdges.farAlong(40);
      x.set(4, 0);
      x.set(3, 1);
      x.set(1, 54);
      x.set(0, 39);
      check.is("from now, not from step 0", x.plan(0, 0, 3), 60);
    });
  }

  private void planStays() {
    doc.says("if it is DOWN now or in between it stays there)", () -> {
      DownAmongFences x = Tale.of(WINDS, "b60304;l0;");
      check.is("down now, X", x.plan(30, 0, 0), 100);
      check.is("down now, Y", x.plan(0, 0, 1), 0);
      check.is("down now, steps", x.plan(30, 5, 3), 0);
      check.is("it would rise", x.go(0), 9);
      x = Tale.of(WINDS, "b14604;l5;h02;");
      for (int k : new int[] {0, 2, 3, 30}) {
        check.is("down in between, X", x.plan(k, 0, 0), 101);
        check.is("down in between, steps", x.plan(k, 5, 3), 2);
        check.is("down in between, pace", x.plan(k, 5, 2), 2);
      }
      x = Tale.of(WINDS, "b14604;l5;h02;a11110;h02;");
      x.set(1, 0);
      check.is("down ahead of the fire under way", x.plan(0, 0, 3), 1);
      check.is("its pace", x.plan(0, 0, 2), 4);
    });
  }

  private void planTold() {
    doc.says("where it comes DOWN (X, Y), its PACE (0: it was DOWN), behind how many STEPS; -9 it is not. The FIELD "
        + "(-9 none) and COST of it", () -> {
      DownAmongFences x = Tale.of("w0+50;b13204;l0;h01;", Tale.field(0, 0, 100, 0, 1));
      int[] due = {100, 0, 2, 1, 0, 2};
      for (int what = 0; what < 6; what++) {
        check.is("it comes down: " + what, x.plan(0, 0, what), due[what]);
      }
      x.go(0);
      int[] then = {100, 0, 0, 0, 0, 0};
      for (int what = 0; what < 6; what++) {
        check.is("it was down: " + what, x.plan(0, 0, what), then[what]);
      }
      x = Tale.of("b60001;l0;h39;", Tale.field(0, 0, 100, 0, 1));
      for (int what = 0; what < 6; what++) {
        check.is("it is not: " + what, x.plan(0, 0, what), -9);
      }
      x = Tale.of("b13204;l0;h01;");
      check.is("no field", x.plan(0, 0, 4), -9);
      check.is("its cost", x.plan(0, 0, 5), 40);
    });
  }

  private void hadIs(String land, int field, int many, int first, int softest, String... fields) {
    DownAmongFences x = Tale.of(land);
    DownAmongFences y = Tale.of(land);
    for (String f : fields) {
      Tale.tell(x, f);
      Tale.tell(y, f);
    }
    int[] found = Laws.had(y, field);
    int[] due = {many, first, softest};
    for (int what = 0; what < 3; what++) {
      check.is("had(" + field + ", " + what + ") of " + land, x.had(field, what), due[what]);
      check.is("each plan of " + land + ": " + what, found[what], due[what]);
    }
  }

  private void had() {
    doc.says("HAD: PLANS by which it comes DOWN in a FIELD: how many; the first (10 k and p; -9); the softest (least PACE, "
        + "of several the first)", () -> {
      hadIs(DRY, 0, 0, -9, -9, Tale.field(0, 0, 900, 900, 30));
      hadIs(DRY, 0, 186, 0, 0, Tale.field(0, 0, 90, 0, 30));
      hadIs("b60304;", 0, 186, 0, 0, Tale.field(0, 0, 100, 0, 1));
      hadIs("b60304;", 0, 0, -9, -9, Tale.field(0, 0, 101, 0, 1));
      hadIs(DRY, 0, 166, 0, 0, Tale.field(0, 0, 108, 4, 1));
      hadIs(DRY, 0, 4, 2, 2, Tale.field(0, 0, 102, 1, 1));
      hadIs(DRY, 1, 0, -9, -9, Tale.field(1, 0, 90, 0, 30), Tale.field(0, 0, 108, 4, 1));
      hadIs(BY_LAST, 0, 1, 305, 305, Tale.field(0, 0, 134, 109, 1));
      hadIs(BY_FIRST, 0, 1, 0, 0, Tale.field(0, 0, 109, 21, 1));
    });
    doc.says("(least PACE, of several the first)", () -> {
      DownAmongFences x = Tale.of("b13094;l0;h02;", Tale.field(0, 0, 100, 0, 1));
      check.is("pace 2 without hold", x.plan(0, 0, 2), 2);
      check.is("pace 1 with it", x.plan(1, 0, 2), 1);
      check.is("and with more of it", x.plan(2, 0, 2), 1);
      check.is("the first", x.had(0, 1), 0);
      check.is("the softest", x.had(0, 2), 10);
    });
  }

  private void best() {
    doc.says("BEST PLAN of all: least COST, of several the first; that COST", () -> {
      String[] fields = {Tale.field(0, 0, 102, 1, 1), Tale.field(0, 0, 104, 2, 1), Tale.field(0, 0, 106, 3, 1),
          Tale.field(0, 0, 108, 4, 1), Tale.field(1, 9, 90, 0, 30), ""};
      int[] plans = {2, 1, 21, 0, 0, 0};
      int[] costs = {3, 2, 3, 2, 16, 40};
      for (int i = 0; i < fields.length; i++) {
        DownAmongFences x = Tale.of(DRY);
        DownAmongFences y = Tale.of(DRY);
        if (!fields[i].isEmpty()) {
          Tale.tell(x, fields[i]);
          Tale.tell(y, fields[i]);
        }
        int[] best = Laws.best(y);
        check.is("the plan " + i, x.best(0), plans[i]);
        check.is("by looking at each " + i, best[0], plans[i]);
        check.is("its cost " + i, x.best(1), costs[i]);
        check.is("its cost by looking at each " + i, best[1], costs[i]);
      }
      DownAmongFences x = Tale.of(DRY, Tale.field(0, 0, 104, 2, 1), Tale.field(0, 0, 108, 4, 1));
      check.is("of two of the same cost the first", x.best(0), 0);
      check.is("its cost", x.best(1), 2);
    });
    doc.says("(-9 none comes DOWN)", () -> {
      // Five PULLS bring down whatever there is within 60 STEPS, so that there is always a best one.
      DownAmongFences x = highest();
      check.is("without a pull", x.plan(0, 0, 3), -9);
      check.is("with five", x.plan(0, 5, 2), 3);
      check.is("the best", x.best(0), Laws.best(highest())[0]);
      check.is("its cost", x.best(1), 40);
    });
  }

  /** As high and as hot as can be, with all FIRE that can be under way. */
  private static DownAmongFences highest() {
    DownAmongFences x = Tale.of("b60601;l5;h39;a11111;");
    x.set(1, 60);
    x.set(2, 60);
    return x;
  }

  private void left() {
    doc.says("FIELDS LEFT (bits): those that can be HAD", () -> {
      check.is("no fields", new DownAmongFences().left(), 0);
      String away = Tale.field(0, 0, 900, 900, 30);
      check.is("none of all", Tale.of(DRY, away, away, away, away, away, away, away, away).left(), 0);
      check.is("the first", Tale.of(DRY, Tale.field(0, 0, 108, 4, 1), away).left(), 1);
      check.is("the eighth", Tale.of(DRY, away, away, away, away, away, away, away, Tale.field(0, 0, 108, 4, 1)).left(), 128);
      check.is("all that count", Tale.of(DRY, Tale.field(0, 0, 102, 1, 1), Tale.field(0, 0, 104, 2, 1),
          Tale.field(0, 0, 106, 3, 1), Tale.field(0, 0, 90, 0, 30), Tale.field(0, 0, 108, 4, 1)).left(), 15);
      check.is("down in one", Tale.of("b60304;", away, Tale.field(0, 0, 100, 0, 1)).left(), 2);
      check.is("by the last plan alone", Tale.of(BY_LAST, Tale.field(0, 0, 134, 109, 1)).left(), 1);
      check.is("by the first plan alone", Tale.of(BY_FIRST, Tale.field(0, 0, 109, 21, 1)).left(), 1);
    });
  }

  private void keepIs(String land, String field, int due) {
    DownAmongFences x = Tale.of(land, field);
    check.is("keep of " + land, x.keep(0), due);
    for (int gas = 0; gas <= 60; gas++) {
      x.set(2, gas);
      check.is("had with " + gas, x.left(), due >= 0 && gas >= due ? 1 : 0);
    }
  }

  private void keep() {
    doc.says("KEEP: the least GAS (0 .. 60) with which a FIELD can be HAD; -9", () -> {
      keepIs("w0+21;w1-13;b17304;l0;h05;", Tale.field(0, 0, 108, 4, 1), 0);
      keepIs("w0+21;w1-13;b17304;l0;h05;", Tale.field(0, 0, 104, 16, 1), 1);
      keepIs("w0+21;w1-13;b17004;l0;h05;", Tale.field(0, 0, 900, 900, 30), -9);
      keepIs("w1+09;b17604;l0;h05;", Tale.field(0, 0, 100, 81, 9), 3);
      keepIs(DRY, Tale.field(0, 0, 102, 1, 1), 0);
      keepIs(BY_FIRST, Tale.field(0, 0, 109, 21, 1), 0);
      keepIs(BY_LAST, Tale.field(0, 0, 134, 109, 1), 9);
      keepIs("w7+09;w6+08;w5+07;w4+06;w3+05;w2+04;w1+03;w0+02;b00016;l0;h39;", Tale.field(0, 0, 100, 257, 1), 14);
    });
  }

  private void goingOnIs(String land, String field, int n) {
    DownAmongFences x = Tale.of(land, field);
    DownAmongFences y = Tale.of(land, field);
    for (int i = 0; i < n; i++) {
      y.go(Laws.holdAct(y));
    }
    check.is("goingOn(" + n + ") of " + land, x.goingOn(n), y.best(1) - x.best(1));
  }

  private void goingOn() {
    doc.says("WORTH GOING ON: by how much BEST COST behind n STEPS (0 .. 20) of HOLD is more than now (may be below 0: it is "
        + "cheaper then;", () -> {
      String cheap = Tale.field(0, 0, 108, 4, 1);
      DownAmongFences x = Tale.of(DRY, cheap);
      check.is("the least", x.goingOn(0), 0);
      check.is("ahead of coming down", x.goingOn(4), 0);
      check.is("cheaper then", x.goingOn(5), -2);
      check.is("the most", x.goingOn(20), -2);
      check.is("too few", x.goingOn(-1), 1000000004);
      check.is("too many", x.goingOn(21), 1000000006);
      check.is("dearer", Tale.of(DRY, Tale.field(0, 0, 102, 1, 1)).goingOn(1), 37);
      for (int n = 0; n <= 20; n += 5) {
        goingOnIs(DRY, cheap, n);
        goingOnIs("w1+91;w2+92;w3+93;b21304;l0;h15;", Tale.field(1, 2, 120, 10, 30), n);
      }
    });
    doc.says("1000 for -9 of either)", () -> {
      // There is a best one always (see above), so what can be looked at is that 1000 never stands in for it.
      for (int n = 0; n <= 20; n += 20) {
        check.is("behind " + n, highest().goingOn(n), 0);
      }
    });
  }

  private void blown() {
    doc.says("BLOWN: the LAYER in which it would go most to the right (SIDE), left, AHEAD (of several the lowest)", () -> {
      DownAmongFences x = new DownAmongFences();
      int[][] winds = {{-1, 0}, {-1, 0}, {0, 0}, {9, 9}, {-9, 0}};
      int[][] due = {{1, 0, 0}, {2, 0, 0}, {2, 0, 0}, {3, 0, 3}, {3, 4, 3}};
      for (int what = 0; what < 3; what++) {
        check.is("all alike: " + what, x.blown(what), 0);
      }
      for (int i = 0; i < winds.length; i++) {
        x.wind(i, winds[i][0], winds[i][1]);
        for (int what = 0; what < 3; what++) {
          check.is("behind wind " + i + ": " + what, x.blown(what), due[i][what]);
        }
      }
      for (int i = 5; i < 8; i++) {
        x.wind(i, i == 6 ? -9 : 9, 9);
      }
      check.is("of several to the right", x.blown(0), 3);
      check.is("of several to the left", x.blown(1), 4);
      check.is("of several ahead", x.blown(2), 3);
      x = Tale.of("w0-11;w1-11;w2-11;w3-11;w4-11;w5-11;w6-11;w7+02;");
      check.is("the last to the right", x.blown(0), 7);
      check.is("the last ahead", x.blown(2), 7);
      x.wind(7, -2, 0);
      check.is("the last to the left", x.blown(1), 7);
      check.is("all to the left, the least of it", x.blown(0), 0);
    });
  }

  private void two() {
    doc.says("TWO LAYERS: to be just so far to the side (-99 .. 99) and ahead (0 .. 99)", () -> {
      DownAmongFences x = Tale.of("w6+90;w7-99;");
      check.is("the least side and the most ahead", x.two(-99, 99, 0), 11);
      check.is("the most side", x.two(99, 0, 0), 11);
      check.is("a side too small", x.two(-100, 0, 0), -4);
      check.is("a side too large", x.two(100, 0, 0), -6);
      check.is("ahead too small", x.two(0, -1, 0), -4);
      check.is("ahead too large", x.two(0, 100, 0), -6);
    });
    doc.says("the fewest STEPS in one LAYER and in another (or the same) together (0 .. 40) by which it is so; -9;", () -> {
      DownAmongFences x = Tale.of("w0+10;w1+01;w2-32;");
      check.is("none is needed", x.two(0, 0, 0), 0);
      check.is("one", x.two(1, 0, 0), 1);
      check.is("40 in one", x.two(40, 0, 0), 40);
      check.is("41 in one", x.two(41, 0, 0), -9);
      check.is("40 in two", x.two(1, 39, 0), 40);
      check.is("41 in two", x.two(2, 39, 0), -9);
      check.is("three layers", x.two(-2, 3, 0), -9);
      check.is("the same", x.two(-6, 4, 0), 2);
      check.is("which, if none", x.two(41, 0, 1), -9);
      check.is("the other way", x.two(-1, 0, 0), -9);
      check.is("calm", new DownAmongFences().two(0, 1, 0), -9);
    });
    doc.says("the LAYERS and how many STEPS in the first (10000 the first, 1000 the other and these; of several the least)",
        () -> {
      DownAmongFences x = Tale.of("w0+10;w1+01;w2-32;w3+10;");
      check.is("no steps", x.two(0, 0, 1), 0);
      check.is("one, none of it in the first", x.two(1, 0, 1), 0);
      check.is("in the other alone", x.two(0, 2, 1), 1000);
      check.is("in both", x.two(3, 4, 1), 1003);
      check.is("not layer 3, which is as good", x.two(-2, 2, 1), 2001);
      x = Tale.of("w6+10;w7+01;");
      check.is("the last layers", x.two(1, 1, 1), 67001);
      check.is("the last and any", x.two(0, 1, 1), 7000);
    });
  }

  private static DownAmongFences swinging(int lag, int people, int heat, int gas, int height) {
    DownAmongFences x = new DownAmongFences();
    x.set(4, lag);
    x.set(3, people);
    x.set(1, heat);
    x.set(2, gas);
    x.set(0, height);
    return x;
  }

  private void swingIs(int first, int later, int grows, Supplier<DownAmongFences> make) {
    DownAmongFences x = make.get();
    int[] heights = Laws.felt(make.get(), 1, 40);
    check.is("at first", x.swing(0), first);
    check.is("as it goes at first", Laws.farthest(heights, x.count(1), 0, 20), first);
    check.is("later", x.swing(1), later);
    check.is("as it goes later", Laws.farthest(heights, x.count(1), 20, 40), later);
    check.is("whether", x.swing(2), grows);
  }

  private void swing() {
    doc.says("SWING: one who answers what he feels (FIRE if RISING is below 0, PULL if above, else nothing; FIRE without GAS: "
        + "nothing)", () -> {
      swingIs(12, 12, 0, () -> swinging(0, 4, 0, 0, 12));
      swingIs(15, 15, 0, () -> swinging(0, 4, 17, 0, 15));
      DownAmongFences x = swinging(0, 4, 17, 1, 15);
      int[] heights = Laws.felt(swinging(0, 4, 17, 1, 15), 1, 40);
      check.is("one fire", x.swing(0), Laws.farthest(heights, 15, 0, 20));
      for (int heat = 0; heat <= 60; heat += 4) {
        int h = heat;
        int[] felt = Laws.felt(swinging(2, 3, h, 20, 18), 1, 40);
        check.is("heat " + h, swinging(2, 3, h, 20, 18).swing(0), Laws.farthest(felt, 18, 0, 20));
        check.is("heat " + h, swinging(2, 3, h, 20, 18).swing(1), Laws.farthest(felt, 18, 20, 40));
      }
    });
    doc.says("for 40 STEPS: how far HEIGHT is from what it is now at most in the first 20, in the others; WHETHER it grows: "
        + "1, 0", () -> {
      swingIs(32, 39, 1, () -> swinging(0, 4, 23, 0, 39));
      swingIs(4, 5, 1, () -> swinging(0, 1, 33, 8, 10));
      int[] heights = Laws.felt(swinging(0, 1, 33, 8, 10), 1, 42);
      check.is("not in 39", Laws.farthest(heights, 10, 20, 39), 4);
      check.is("more in 41", Laws.farthest(heights, 10, 20, 41), 6);
      check.is("it is as much", swinging(0, 4, 0, 0, 12).swing(2), 0);
      check.is("at rest", new DownAmongFences().swing(0) + new DownAmongFences().swing(1), 0);
      check.is("at rest it does not grow", new DownAmongFences().swing(2), 0);
    });
  }

  private void calm() {
    doc.says("CALM: the least g (1 .. 9) such that, answering only each g-th STEP (0, g, ..), it does not grow; -9", () -> {
      int[][] cases = {{0, 0, 1}, {0, 10, 2}, {0, 20, 3}, {1, 35, 4}, {5, 35, 5}, {7, 35, 6}, {8, 35, 7}, {25, 15, 8},
          {9, 35, 9}, {10, 35, -9}, {9, 37, -9}};
      for (int[] c : cases) {
        Supplier<DownAmongFences> make = () -> swinging(0, 1, c[0], 60, c[1]);
        check.is("heat " + c[0] + " at height " + c[1], make.get().calm(), c[2]);
        check.is("as it goes, heat " + c[0], Laws.calm(make), c[2]);
      }
      check.holds("only each 10th would do", !Laws.grows(() -> swinging(0, 1, 9, 60, 37), 10));
      check.is("at rest", new DownAmongFences().calm(), 1);
    });
  }

  private void out() {
    doc.says("OUT: DOWN with HEAT as it is, people get out one by one, each that is out makes BALANCE 2 less: how many can "
        + "(0 .. PEOPLE) while RISING behind each is 0 or less; -9 it is not DOWN", () -> {
      int[][] cases = {{22, 4, 0}, {21, 4, 1}, {20, 4, 1}, {19, 4, 2}, {17, 4, 3}, {16, 4, 3}, {15, 4, 4}, {0, 4, 4},
          {60, 4, 0}, {15, 1, 1}, {16, 1, 0}, {15, 6, 6}, {16, 6, 5}, {26, 6, 0}, {25, 6, 1}};
      for (int[] c : cases) {
        DownAmongFences x = new DownAmongFences();
        x.set(1, c[0]);
        x.set(3, c[1]);
        check.is("heat " + c[0] + ", people " + c[1], x.out(), c[2]);
        int gone = 0;
        while (c[1] - gone > 1 && gone < c[2]) {
          gone++;
          x.set(3, c[1] - gone);
          check.holds("rising behind " + gone, x.rising() <= 0);
        }
        if (c[2] < c[1] - 1) {
          x.set(3, c[1] - c[2] - 1);
          check.holds("rising behind one more", x.rising() > 0);
        }
        x.set(0, 1);
        check.is("not down", x.out(), -9);
        x.set(0, 39);
        check.is("far from down", x.out(), -9);
      }
    });
  }

  private void judged() {
    doc.says("A ROW of numbers (0 .. 99; 12 at most): JUDGED: HEIGHTS behind 1, 2, .. STEPS of HOLD: the first that is not so; "
        + "-9", () -> {
      DownAmongFences x = new DownAmongFences();
      check.is("the least", x.row(0), 1);
      check.is("the most", x.row(99), 2);
      check.is("too small", x.row(-1), -4);
      check.is("too large", x.row(100), -6);
      for (int i = 3; i <= 12; i++) {
        check.is("number " + i, x.row(i), i);
      }
      check.is("too many", x.row(0), -6);
      check.is("there are", x.count(10), 12);
      int[] heights = new int[12];
      DownAmongFences gone = Tale.of("b33304;l0;h10;");
      for (int i = 0; i < 12; i++) {
        heights[i] = gone.go(Laws.holdAct(gone));
      }
      x = Tale.of("b33304;l0;h10;");
      check.is("empty", x.judge(), -9);
      Tale.row(x, heights);
      check.is("all 12", x.judge(), -9);
      for (int wrong = 0; wrong < 12; wrong++) {
        int[] told = heights.clone();
        told[wrong]++;
        told[11] = wrong < 11 ? 99 : told[11];
        Tale.row(x, told);
        check.is("the first of two wrong ones", x.judge(), wrong);
      }
      Tale.row(x, 10);
      check.is("the height now is not among them", x.judge(), 0);
      Tale.row(x, Arrays.copyOf(heights, 1));
      check.is("one", x.judge(), -9);
    });
  }

  private void lotsAre(String land, String field, int n, int z) {
    DownAmongFences x = Tale.of(land, field);
    int[] due = Laws.lots(() -> Tale.of(land, field), n, z);
    check.is("lots(" + n + ", " + z + ", 0) of " + land, x.lots(n, z, 0), due[0]);
    check.is("lots(" + n + ", " + z + ", 1) of " + land, x.lots(n, z, 1), due[1]);
  }

  private void lots() {
    doc.says("LOTS with a seed z: n flights (1 .. 20): from now, ACTS by DRAWS below 3 (FIRE without GAS: nothing)", () -> {
      String field = Tale.field(1, 3, 95, 0, 30);
      for (int n : new int[] {1, 2, 19, 20}) {
        lotsAre("w0+21;w1-13;b17304;l0;h05;", field, n, 99);
        lotsAre("w0+21;w1-13;b17004;l2;h05;", field, n, 5);
        lotsAre("w0+21;w1-13;b22024;l1;h02;", field, n, 7);
      }
      DownAmongFences x = Tale.of("b17304;l0;h05;", field);
      check.is("no flights", x.lots(0, 1, 0), -4);
      check.is("too many", x.lots(21, 1, 0), -6);
    });
    doc.says("till it is DOWN behind the first STEP (40 at most): how many come DOWN in a FIELD; all COSTS (40 for not DOWN, "
        + "too)", () -> {
      String field = Tale.field(0, 0, 100, 0, 1);
      DownAmongFences x = Tale.of("w0+11;b19004;l5;", field);
      check.is("down now, down behind a step", x.lots(20, 3, 0), 20);
      check.is("at no pace", x.lots(20, 3, 1), 0);
      x = Tale.of("w0+11;b10004;l5;", field);
      check.is("rising below 0, but not from above", x.lots(20, 3, 0), 20);
      check.is("so at no pace, too", x.lots(20, 3, 1), 0);
      x = Tale.of("w0+11;b30004;l5;", field);
      check.is("down now, up by a step", x.lots(1, 3, 0), 0);
      lotsAre("w0+11;b30004;l5;", field, 3, 3);
      x = Tale.of("b60004;l5;h39;", field);
      check.is("not down in 40", x.lots(20, 3, 0), Laws.lots(() -> Tale.of("b60004;l5;h39;", field), 20, 3)[0]);
      x = Tale.of("b60601;l5;h39;", field);
      check.is("not down", x.lots(1, 1, 0), 0);
      check.is("not down", x.lots(1, 1, 1), 40);
      x = Tale.of("b17004;l5;h05;");
      check.is("down outside of all", x.lots(20, 3, 0), 0);
      check.is("down outside of all", x.lots(20, 3, 1), 800);
      for (int heat = 33; heat <= 43; heat++) {
        lotsAre("b" + heat + "001;l5;h39;", field, 2, heat);
      }
    });
  }

  private void draws() {
    doc.says("DRAWS: z becomes z times 1103515245 plus 12345 (an int, wrapping); a DRAW below n is (z without its sign's bit, "
        + "over 65536, cut) modulo n", () -> {
      String field = Tale.field(1, 3, 90, 0, 30);
      for (int z : new int[] {0, 1, -1, 2, 65535, 65536, Integer.MAX_VALUE, Integer.MIN_VALUE, Integer.MIN_VALUE + 1,
          1103515245, -1103515245, -12345}) {
        lotsAre("w0+21;w1-13;b22304;l0;h06;", field, 3, z);
      }
    });
  }

  private void takenBack() {
    doc.says("STEPS that were gone (by go() alone) can be TAKEN BACK, the latest first, 8 at most (older ones no more;", () -> {
      DownAmongFences x = new DownAmongFences();
      check.is("none", x.back(), -3);
      Tale.tell(x, "a000;");
      check.is("steps of a land are none", x.back(), -3);
      for (int i = 1; i <= 8; i++) {
        x.go(0);
        check.is("there are", x.count(18), i);
      }
      x.go(0);
      check.is("no more than 8", x.count(18), 8);
      for (int i = 1; i <= 8; i++) {
        check.is("the latest first", x.back(), 12 - i);
        check.is("there are", x.count(18), 8 - i);
      }
      check.is("the oldest no more", x.back(), -3);
      check.is("it stays", x.count(8), 4);
      x.go(0);
      check.is("one again", x.count(18), 1);
    });
    doc.says("all else of I that is not refused and is about the flight or the land alone (feed() is not), and restore(), leave "
        + "none, also if nothing is different)", () -> {
      int[] counts = {1, 4, 5, 6, 7};
      for (int what = 0; what < 5; what++) {
        int w = what;
        leavesNone(x -> x.set(w, x.count(counts[w])));
      }
      leavesNone(x -> x.set(0, 20));
      leavesNone(x -> x.wind(0, 2, 1));
      leavesNone(x -> x.wind(5, 1, 1));
      leavesNone(x -> x.road(0, 1, 5));
      leavesNone(x -> x.road(0, 7, 0));
      leavesNone(x -> x.car(2));
      leavesNone(x -> x.car(3));
      leavesNone(x -> x.land());
      leavesNone(x -> x.restore());
      String refused = "so many are left by what is refused or is no such call";
      DownAmongFences x = busyWithLetters();
      x.set(0, 40);
      x.set(5, 0);
      x.wind(8, 0, 0);
      x.wind(0, 10, 0);
      x.road(0, 0, 0);
      x.road(0, 1, 100);
      x.car(-1);
      check.is(refused, x.count(18), 2);
      x.feed('h');
      x.feed(-1);
      check.is(refused, x.count(18), 2);
      x.image();
      x.row(1);
      x.judge();
      x.row(1);
      x.clear();
      check.is(refused, x.count(18), 2);
      DownAmongFences y = new DownAmongFences();
      y.go(0);
      y.restore();
      check.is("no image, so refused", y.count(18), 1);
    });
    doc.says("all is as ahead of it", () -> {
      DownAmongFences x = Tale.of(WINDS, "b25104;l3;h12;a1;");
      DownAmongFences twin = Tale.of(WINDS, "b25104;l3;h12;a1;");
      for (int act = 0; act < 3; act++) {
        x.go(act);
      }
      for (int i = 0; i < 3; i++) {
        x.back();
      }
      check.holds("all", Tale.state(x).equals(Tale.state(twin)));
      for (int i = 0; i < 6; i++) {
        check.is("what is under way, too", x.go(2), twin.go(2));
        check.is("heat", x.count(4), twin.count(4));
      }
    });
  }

  private static DownAmongFences busyWithLetters() {
    DownAmongFences x = Twins.busy();
    x.feed('9');
    x.feed(';');
    return x;
  }

  private void leavesNone(ToIntFunction<DownAmongFences> call) {
    DownAmongFences x = busyWithLetters();
    check.is("two", x.count(18), 2);
    check.holds("not refused", call.applyAsInt(x) >= 0);
    check.is("none is left", x.count(18), 0);
    check.is("none is left", x.back(), -3);
  }
}
