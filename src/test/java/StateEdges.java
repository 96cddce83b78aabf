/** Part I of the document: the least and the most of all that there is, what is held, cut and lost. */
final class StateEdges {
  private final Sentences doc;
  private final Check check;
  private final Twins twins;

  StateEdges(Sentences doc, Check check) {
    this.doc = doc;
    this.check = check;
    this.twins = new Twins(check);
  }

  void all() {
    doc.in("What it is");
    manyCalls();
    doc.in("I");
    air();
    places();
    numbers();
    balance();
    acts();
    lag();
    lagLost();
    heatHeld();
    heightHeld();
    blown();
    landing();
    fields();
    squares();
    costs();
    costOfShort();
    costOfLast();
    outside();
    drag();
    roads();
  }

  private void manyCalls() {
    doc.says("An object is used for at most 512 calls after it has been made; what later calls answer is free", () -> {
      DownAmongFences x = new DownAmongFences();
      for (int i = 1; i <= 510; i++) {
        check.is("call " + i, x.go(0), 0);
      }
      check.is("call 511", x.back(), 509);
      check.is("call 512", x.count(8), 509);
      DownAmongFences y = new DownAmongFences();
      for (int i = 1; i <= 511; i++) {
        check.is("refusal " + i, y.car(8), -1);
      }
      check.is("call 512", y.count(11), 511);
    });
  }

  private static DownAmongFences balloon(int heat, int people, int height) {
    DownAmongFences x = new DownAmongFences();
    x.set(4, 0);
    x.set(1, heat);
    x.set(3, people);
    x.set(0, height);
    return x;
  }

  private void air() {
    doc.says("LAYERS of air 0 .. 7", () -> {
      DownAmongFences x = new DownAmongFences();
      for (int i = 0; i < 8; i++) {
        check.is("wind of " + i, x.wind(i, i - 3, i + 1), 900);
      }
      for (int i = 0; i < 8; i++) {
        check.is("side of " + i, x.layer(i, 0), i - 3);
        check.is("ahead of " + i, x.layer(i, 1), i + 1);
      }
      check.is("layer -1", x.layer(-1, 0), 1000000001);
      check.is("layer 8", x.layer(8, 0), 1000000001);
      check.is("wind of -1", x.wind(-1, 0, 0), -1);
      check.is("wind of 8", x.wind(8, 0, 0), -1);
    });
    doc.says("SIDE (-9 .. 9)", () -> {
      DownAmongFences x = new DownAmongFences();
      x.wind(3, -9, 0);
      check.is("the least", x.layer(3, 0), -9);
      check.is("too small", x.wind(3, -10, 0), -4);
      check.is("as it was", x.layer(3, 0), -9);
      x.wind(3, 9, 0);
      check.is("the most", x.layer(3, 0), 9);
      check.is("too large", x.wind(3, 10, 0), -6);
      check.is("as it was", x.layer(3, 0), 9);
    });
    doc.says("AHEAD (0 .. 9)", () -> {
      DownAmongFences x = new DownAmongFences();
      x.wind(3, 0, 9);
      check.is("the most", x.layer(3, 1), 9);
      check.is("too large", x.wind(3, 0, 10), -6);
      check.is("as it was", x.layer(3, 1), 9);
      x.wind(3, 0, 0);
      check.is("the least", x.layer(3, 1), 0);
      check.is("too small", x.wind(3, 0, -1), -4);
      check.is("as it was", x.layer(3, 1), 0);
    });
    doc.says("squares a STEP (0 and 0 at first)", () -> {
      DownAmongFences x = new DownAmongFences();
      for (int i = 0; i < 8; i++) {
        check.is("side of " + i, x.layer(i, 0), 0);
        check.is("ahead of " + i, x.layer(i, 1), 0);
      }
    });
    doc.says("HEIGHT (0 .. 39; 0 at first)", () -> number(0, 1, 0, 39, 0));
    doc.says("its LAYER: HEIGHT by 5, cut", () -> {
      DownAmongFences x = Tale.of("w0+01;w1+12;w2+23;w3+34;w4+45;w5+56;w6+67;w7+78;");
      for (int height = 1; height <= 39; height++) {
        x.set(0, height);
        x.set(1, 21);
        int side = x.count(2);
        int ahead = x.count(3);
        check.is("no rising", x.go(0), height);
        check.is("side at height " + height, x.count(2) - side, height / 5);
        check.is("ahead at height " + height, x.count(3) - ahead, height / 5 + 1);
      }
    });
  }

  /** A number that set() sets and count() tells: its least, its most, what it is at first. */
  private void number(int what, int count, int least, int most, int first) {
    DownAmongFences x = new DownAmongFences();
    check.is("at first", x.count(count), first);
    check.is("too small", x.set(what, least - 1), -4);
    check.is("far too small", x.set(what, Integer.MIN_VALUE), -4);
    check.is("too large", x.set(what, most + 1), -6);
    check.is("far too large", x.set(what, Integer.MAX_VALUE), -6);
    check.is("as it was", x.count(count), first);
    check.is("the least", x.set(what, least), first);
    check.is("is the least", x.count(count), least);
    check.is("too small from there", x.set(what, least - 1), -4);
    check.is("the most", x.set(what, most), least);
    check.is("is the most", x.count(count), most);
    check.is("too large from there", x.set(what, most + 1), -6);
    check.is("stays the most", x.count(count), most);
  }

  private void places() {
    doc.says("AT: X, Y (0 .. 999; 100 and 0 at first)", () -> {
      DownAmongFences x = new DownAmongFences();
      check.is("X at first", x.count(2), 100);
      check.is("Y at first", x.count(3), 0);
      x = Tale.of("w7+99;b60601;h39;");
      drift(x, 99);
      check.is("X just within", x.count(2), 991);
      drift(x, 1);
      check.is("X held", x.count(2), 999);
      drift(x, 11);
      check.is("X stays held", x.count(2), 999);
      check.is("Y just so", x.count(3), 999);
      drift(x, 1);
      check.is("Y held", x.count(3), 999);
      x.wind(7, -9, 0);
      drift(x, 1);
      check.is("X from there", x.count(2), 990);
      check.is("Y goes nowhere back", x.count(3), 999);
    });
    doc.says("HEAT (0 .. 60; 20 at first)", () -> number(1, 4, 0, 60, 20));
    doc.says("GAS (0 .. 60; 30 at first)", () -> number(2, 5, 0, 60, 30));
    doc.says("PEOPLE (1 .. 6; 4 at first)", () -> number(3, 6, 1, 6, 4));
    doc.says("LAG (0 .. 5 STEPS; 2 at first)", () -> number(4, 7, 0, 5, 2));
  }

  /** STEPS at HEIGHT 39 with one on board. */
  private static void drift(DownAmongFences x, int steps) {
    for (int i = 0; i < steps; i++) {
      if (x.count(4) < 30) {
        x.set(1, 60);
      }
      x.go(0);
    }
  }

  private void numbers() {
    doc.says("STEP (0 .. 999; 0 at first)", () -> {
      DownAmongFences x = new DownAmongFences();
      check.is("at first", x.count(8), 0);
      x.go(0);
      check.is("behind one", x.count(8), 1);
      // So many STEPS take more than the 512 calls that are promised; the class goes on the same.
      DownAmongFences far = farAlong(998);
      check.is("998", far.count(8), 998);
      check.is("the last", far.go(0), 0);
      check.is("999", far.count(8), 999);
      check.is("too many", far.go(0), -6);
      check.is("stays 999", far.count(8), 999);
    });
  }

  /** A balloon that has gone so many STEPS, DOWN all the time. */
  static DownAmongFences farAlong(int steps) {
    DownAmongFences x = new DownAmongFences();
    x.set(1, 0);
    while (x.count(8) < steps) {
      x.go(0);
    }
    return x;
  }

  private void balance() {
    doc.says("BALANCE: 12 and twice PEOPLE. RISING: HEAT less BALANCE, by 4, cut toward 0", () -> {
      int[][] over = {{-8, -2}, {-7, -1}, {-5, -1}, {-4, -1}, {-3, 0}, {-1, 0}, {0, 0}, {1, 0}, {3, 0}, {4, 1}, {5, 1},
          {7, 1}, {8, 2}};
      for (int people = 1; people <= 6; people++) {
        for (int[] c : over) {
          DownAmongFences x = balloon(12 + 2 * people + c[0], people, 3);
          check.is(people + " people, over by " + c[0], x.rising(), c[1]);
        }
        check.is(people + " people, no heat", balloon(0, people, 3).rising(), -(12 + 2 * people) / 4);
        check.is(people + " people, all heat", balloon(60, people, 3).rising(), (48 - 2 * people) / 4);
      }
    });
  }

  private void acts() {
    doc.says("FIRE (only with GAS; it is 1 less)", () -> {
      DownAmongFences x = balloon(20, 4, 3);
      x.set(2, 60);
      x.go(1);
      check.is("1 less of the most", x.count(5), 59);
      x.set(2, 1);
      x.go(1);
      check.is("the last", x.count(5), 0);
      check.is("none", x.go(1), -3);
      check.is("none, so it stays", x.count(5), 0);
      x.go(2);
      x.go(0);
      check.is("others need none", x.count(5), 0);
    });
    doc.says("(FIRE 4 HEAT more, PULL 5 less, nothing 0)", () -> {
      int[] heats = {29, 33, 24};
      for (int act = 0; act < 3; act++) {
        DownAmongFences x = balloon(30, 4, 9);
        x.go(act);
        check.is("heat behind act " + act, x.count(4), heats[act]);
      }
    });
  }

  private void lag() {
    doc.says("is done LAG STEPS later (LAG 0: at once;", () -> {
      for (int act = 1; act <= 2; act++) {
        int work = act == 1 ? 4 : -5;
        for (int lag = 0; lag <= 5; lag++) {
          DownAmongFences x = balloon(40, 4, 20);
          x.set(4, lag);
          for (int i = 0; i < 8; i++) {
            x.go(i == 0 ? act : 0);
            check.is("act " + act + ", lag " + lag + ", behind " + (i + 1), x.count(4), 39 - i + (i >= lag ? work : 0));
          }
        }
      }
    });
    doc.says("GAS, WORK put at the end of what is under way", () -> {
      int[] acts = {1, 2, 0, 1, 1, 2, 2, 0, 0, 0, 0, 0};
      int[] works = {0, 0, 0, 0, 0, 4, -5, 0, 4, 4, -5, -5};
      DownAmongFences x = balloon(40, 4, 20);
      x.set(4, 5);
      int heat = 40;
      int gas = 30;
      for (int i = 0; i < acts.length; i++) {
        x.go(acts[i]);
        gas -= acts[i] == 1 ? 1 : 0;
        heat += works[i] - 1;
        check.is("heat behind " + (i + 1), x.count(4), heat);
        check.is("gas at once behind " + (i + 1), x.count(5), gas);
      }
    });
  }

  /** FIRE and PULL are given under LAG 2, then comes what is said; HEAT behind two STEPS more. */
  private int heatBehind(String land, int... lags) {
    DownAmongFences x = balloon(40, 4, 20);
    x.set(4, 2);
    x.go(1);
    x.go(2);
    for (int lag : lags) {
      x.set(4, lag);
    }
    if (!land.isEmpty()) {
      check.is("land " + land, Tale.tell(x, land), 1);
    }
    x.go(0);
    x.go(0);
    return x.count(4);
  }

  private void lagLost() {
    doc.says("what is under way when LAG becomes another one, or is told in a LAND, is lost", () -> {
      check.is("none becomes another one", heatBehind(""), 36 + 4 - 5);
      check.is("it becomes the same one", heatBehind("", 2), 36 + 4 - 5);
      check.is("it becomes 0", heatBehind("", 0), 36);
      check.is("it becomes 1 more", heatBehind("", 3), 36);
      check.is("another one and back", heatBehind("", 5, 2), 36);
      check.is("refused", heatBehind("", 6), 36 + 4 - 5);
      check.is("another one is told", heatBehind("l1;"), 36);
      check.is("the same one is told", heatBehind("l2;"), 36);
      check.is("others are told", heatBehind("h22;"), 36 + 4 - 5);
      check.is("0 is told", heatBehind("l0;"), 36);
      DownAmongFences x = balloon(40, 4, 20);
      x.set(4, 2);
      x.go(1);
      check.is("told with a fault", Tale.tell(x, "l3;l6;"), -2003);
      x.go(0);
      x.go(0);
      check.is("so it is not lost", x.count(4), 37 + 4);
      x = balloon(40, 4, 20);
      check.is("told behind acts", Tale.tell(x, "l2;a1;l2;a00;"), 4);
      check.is("those are lost", x.count(4), 37);
    });
  }

  private void heatHeld() {
    doc.says("HEAT is 1 less and as much more as what is due of WORK (0 to 60 held, both together)", () -> {
      int[][] cases = {{0, 0, 0}, {1, 0, 0}, {2, 0, 1}, {0, 1, 3}, {1, 1, 4}, {0, 2, 0}, {1, 2, 0}, {5, 2, 0}, {6, 2, 0},
          {7, 2, 1}, {60, 0, 59}, {60, 1, 60}, {58, 1, 60}, {57, 1, 60}, {56, 1, 59}, {60, 2, 54}};
      for (int[] c : cases) {
        DownAmongFences x = balloon(c[0], 4, 20);
        x.go(c[1]);
        check.is("heat " + c[0] + ", act " + c[1], x.count(4), c[2]);
      }
    });
  }

  private void heightHeld() {
    doc.says("HEIGHT is RISING more (39 at most; 0 at least: it is DOWN, or stays so)", () -> {
      int[][] cases = {{37, 29, 39}, {38, 25, 39}, {38, 29, 39}, {39, 25, 39}, {39, 60, 39}, {39, 21, 39}, {39, 17, 38},
          {2, 17, 1}, {1, 17, 0}, {1, 16, 0}, {1, 1, 0}, {2, 0, 0}, {5, 0, 0}, {6, 0, 1}, {0, 17, 0}, {0, 0, 0}, {0, 21, 0},
          {0, 24, 0}, {0, 25, 1}, {0, 60, 9}};
      for (int[] c : cases) {
        check.is("height " + c[0] + ", heat " + c[1], balloon(c[1], 4, c[0]).go(0), c[2]);
      }
    });
  }

  private void blown() {
    doc.says("if it is above 0 then, X is SIDE, Y AHEAD of its LAYER more (0 to 999 held)", () -> {
      String winds = "w0+51;w1-42;w2+73;";
      int[][] cases = {{1, 17, 100, 0}, {2, 17, 105, 1}, {0, 25, 105, 1}, {0, 17, 100, 0}, {0, 21, 100, 0}, {4, 25, 96, 2},
          {5, 21, 96, 2}, {5, 17, 105, 1}, {10, 21, 107, 3}, {10, 17, 96, 2}, {9, 25, 107, 3}};
      for (int[] c : cases) {
        DownAmongFences x = Tale.of(winds + "l0;");
        x.set(0, c[0]);
        x.set(1, c[1]);
        x.go(0);
        check.is("X from height " + c[0] + ", heat " + c[1], x.count(2), c[2]);
        check.is("Y from height " + c[0] + ", heat " + c[1], x.count(3), c[3]);
      }
      DownAmongFences x = Tale.of("w7-90;b60601;h39;");
      drift(x, 11);
      check.is("X just above 0", x.count(2), 1);
      drift(x, 1);
      check.is("X held at 0", x.count(2), 0);
      drift(x, 1);
      check.is("X stays at 0", x.count(2), 0);
      x.wind(7, 1, 0);
      drift(x, 1);
      check.is("X from 0", x.count(2), 1);
    });
    doc.says("STEP is 1 more", () -> {
      DownAmongFences x = balloon(20, 4, 3);
      for (int act = 0; act < 3; act++) {
        x.go(act);
        check.is("act " + act, x.count(8), act + 1);
      }
      x.go(3);
      check.is("none if refused", x.count(8), 3);
    });
  }

  private void landing() {
    doc.says("DOWN with RISING r below 0 from above 0: HARD -r squares of 10 feet (its LANDING's PACE)", () -> {
      int[][] cases = {{1, 17, 4, 1}, {1, 14, 4, 1}, {1, 13, 4, 2}, {2, 13, 4, 2}, {1, 0, 4, 5}, {5, 0, 4, 5}, {6, 0, 4, 5},
          {1, 0, 6, 6}, {6, 0, 6, 6}, {7, 0, 6, 6}, {1, 0, 1, 3}, {0, 0, 6, 0}, {0, 17, 4, 0}};
      for (int[] c : cases) {
        DownAmongFences x = balloon(c[1], c[2], c[0]);
        check.is("height " + c[0] + ", heat " + c[1] + ", people " + c[2], x.plan(0, 0, 2), c[3]);
      }
    });
  }

  private void fields() {
    doc.says("FIELDS 0 .. 7 as they come (8 at most), of KINDS: 0 FIELD; 1 CORN under FIELD; 2 WIRED under FIELD; "
        + "3 BULL under FIELD; 4 SHORT under WIRED; 5 LAST under CORN", () -> {
      DownAmongFences x = new DownAmongFences();
      for (int i = 0; i < 8; i++) {
        check.is("field " + i + " is none yet", x.field(i, 0), -1);
        check.is("field " + i + " comes", Tale.tell(x, Tale.field(i % 6, i, 10 * i, 20 * i, i + 1)), 1);
        check.is("fields", x.count(0), i + 1);
        check.is("the latest is the greatest number", x.field(i, 1), i);
        check.is("the first stays the first", x.field(0, 4), 1);
        check.is("kind", x.field(i, 0), i % 6);
      }
      check.is("a ninth", Tale.tell(x, Tale.field(0, 0, 0, 0, 1)), -2000);
      check.is("fields", x.count(0), 8);
      check.is("field 8", x.field(8, 0), -1);
      check.is("kind 6", Tale.tell(new DownAmongFences(), "f6000000001;"), -2000);
    });
    doc.says("a FIGURE (0 .. 9), X, Y (0 .. 999) of its nearest left corner, a SIZE (1 .. 30 squares both ways)", () -> {
      DownAmongFences x = Tale.of("f0000000001;f0999999930;");
      int[][] due = {{0, 0, 0, 0, 1}, {0, 9, 999, 999, 30}};
      for (int what = 0; what < 5; what++) {
        check.is("the least of " + what, x.field(0, what), due[0][what]);
        check.is("the most of " + what, x.field(1, what), due[1][what]);
      }
      check.is("no size", Tale.tell(x, "f0000000000;"), -2000);
      check.is("size 31", Tale.tell(x, "f0000000031;"), -2000);
      check.is("none came", x.count(0), 2);
    });
  }

  /** The FIELD in which one that is DOWN at (100, 9) stands, or -9. */
  private static int fieldAround(String... fields) {
    DownAmongFences x = Tale.of("w7+09;b60601;h39;a0;h00;");
    for (String field : fields) {
      Tale.tell(x, field);
    }
    return x.plan(0, 0, 4);
  }

  private void squares() {
    doc.says("of its nearest left corner, a SIZE (1 .. 30 squares both ways)", () -> {
      int[][] in = {{100, 9, 1}, {100, 0, 10}, {91, 9, 10}, {91, 0, 10}, {100, 9, 30}, {71, 0, 30}, {71, 9, 30}, {85, 5, 30}};
      int[][] out = {{101, 9, 1}, {99, 9, 1}, {100, 10, 1}, {100, 8, 1}, {100, 0, 9}, {91, 9, 9}, {90, 9, 10}, {101, 0, 30},
          {100, 10, 30}, {70, 0, 30}, {0, 0, 30}, {999, 999, 30}};
      for (int[] f : in) {
        check.is("within", fieldAround(Tale.field(0, 0, f[0], f[1], f[2])), 0);
      }
      for (int[] f : out) {
        check.is("beside it", fieldAround(Tale.field(0, 0, f[0], f[1], f[2])), -9);
      }
    });
  }

  private void costs() {
    doc.says("FIELD p, twice p if p is above 3", () -> {
      DownAmongFences x = Tale.of(Tale.field(0, 9, 0, 0, 1));
      int[] due = {0, 1, 2, 3, 8, 10, 12};
      for (int p = 0; p < due.length; p++) {
        check.is("pace " + p, x.cost(0, p), due[p]);
      }
      check.is("pace 20", x.cost(0, 20), 40);
    });
    doc.says("CORN a FIELD's and FIGURE plus 5; WIRED a FIELD's and 3 FIGURE; BULL a FIELD's and FIGURE", () -> {
      for (int figure = 0; figure <= 9; figure += 9) {
        DownAmongFences x = Tale.of(Tale.field(1, figure, 0, 0, 1) + Tale.field(2, figure, 0, 0, 1)
            + Tale.field(3, figure, 0, 0, 1));
        int[][] paces = {{0, 0}, {3, 3}, {4, 8}, {20, 40}};
        for (int[] p : paces) {
          check.is("corn, pace " + p[0], x.cost(0, p[0]), p[1] + figure + 5);
          check.is("wired, pace " + p[0], x.cost(1, p[0]), p[1] + 3 * figure);
          check.is("bull, pace " + p[0], x.cost(2, p[0]), p[1] + figure);
        }
      }
    });
  }

  private void costOfShort() {
    doc.says("SHORT a WIRED's and, if DRAG is above 10 SIZE, 20 more", () -> {
      DownAmongFences x = Tale.of("f4200000001;f4200000013;f4200000014;f4200000002;");
      x.set(3, 1);
      check.is("drag 10", x.drag(3), 10);
      check.is("just 10 a size", x.cost(0, 3), 9);
      x.set(3, 2);
      x.wind(0, -1, 0);
      check.is("drag 11", x.drag(3), 11);
      check.is("above 10 a size", x.cost(0, 3), 29);
      check.is("below twice 10", x.cost(3, 3), 9);
      x.wind(0, 9, 9);
      x.set(3, 1);
      check.is("drag at most", x.drag(20), 132);
      check.is("above 13 times 10", x.cost(1, 20), 66);
      check.is("below 14 times 10", x.cost(2, 20), 46);
    });
  }

  private void costOfLast() {
    doc.says("LAST half of a CORN's, cut", () -> {
      DownAmongFences x = Tale.of("f5000000001;f5900000001;");
      int[][] due = {{0, 0, 2}, {0, 1, 3}, {0, 2, 3}, {0, 3, 4}, {0, 4, 6}, {0, 20, 22}, {1, 0, 7}, {1, 1, 7}, {1, 20, 27}};
      for (int[] d : due) {
        check.is("field " + d[0] + ", pace " + d[1], x.cost(d[0], d[1]), d[2]);
      }
    });
  }

  private void outside() {
    doc.says("Outside of all (of several the least number counts): 40", () -> {
      DownAmongFences x = new DownAmongFences();
      check.is("no fields", x.plan(0, 0, 5), 40);
      check.is("no field", x.plan(0, 0, 4), -9);
      Tale.tell(x, Tale.field(1, 9, 101, 0, 1));
      check.is("beside it", x.plan(0, 0, 5), 40);
      Tale.tell(x, Tale.field(1, 9, 100, 0, 1));
      check.is("in the second", x.plan(0, 0, 4), 1);
      check.is("its cost", x.plan(0, 0, 5), 14);
      Tale.tell(x, Tale.field(0, 0, 100, 0, 1));
      check.is("a third there, cheaper", x.plan(0, 0, 4), 1);
      check.is("does not count", x.plan(0, 0, 5), 14);
      check.is("of three", fieldAround(Tale.field(0, 0, 0, 0, 1), Tale.field(2, 0, 95, 5, 9), Tale.field(1, 0, 95, 5, 9),
          Tale.field(0, 0, 95, 5, 9)), 1);
    });
  }

  private void drag() {
    doc.says("DRAG (yards) with PACE p: 4 p and 3 times (SIDE without sign, and AHEAD) of LAYER 0, less twice PEOPLE, "
        + "0 at least", () -> {
      DownAmongFences x = new DownAmongFences();
      int[][] cases = {{2, 4, 0}, {1, 6, 0}, {0, 6, 0}, {0, 1, 0}, {1, 1, 2}, {1, 2, 0}, {2, 3, 2}, {20, 6, 68}, {20, 1, 78}};
      for (int[] c : cases) {
        x.set(3, c[1]);
        check.is("pace " + c[0] + ", people " + c[1], x.drag(c[0]), c[2]);
      }
      x.set(3, 4);
      int[][] winds = {{3, 0, 1}, {-3, 0, 1}, {0, 3, 1}, {2, 0, 0}, {-2, 0, 0}, {-1, 1, 0}, {-9, 9, 46}, {9, 9, 46}};
      for (int[] w : winds) {
        x.wind(0, w[0], w[1]);
        check.is("side " + w[0] + ", ahead " + w[1], x.drag(0), w[2]);
      }
      x.wind(0, 0, 0);
      x.wind(1, 9, 9);
      x.set(0, 7);
      check.is("layer 1 does not count", x.drag(0), 0);
    });
  }

  private void roads() {
    doc.says("ROADS: PLACES 0 .. 7 at X 0, 100, 200, .. 700", () -> {
      DownAmongFences x = Tale.of("r0110;r0220;r0330;r0440;r0550;r0660;r0770;");
      check.is("place 0", x.drive(0), 0);
      check.is("place 7", x.drive(7), 70);
      check.is("place 8", x.drive(8), -1);
      check.is("place -1", x.drive(-1), -1);
      check.is("at X 100", x.chase(0, 0, 0), 10);
    });
    doc.says("between two ROADS of so many MINUTES (1 .. 99; none at first)", () -> {
      DownAmongFences x = new DownAmongFences();
      for (int one = 0; one < 8; one++) {
        for (int other = 0; other < one; other++) {
          check.is("none at first", x.road(one, other, 0), 0);
        }
      }
      check.is("the least", x.road(0, 1, 1), 0);
      check.is("is driven in", x.drive(1), 1);
      check.is("the most", x.road(1, 0, 99), 1);
      check.is("is driven in", x.drive(1), 99);
      check.is("too many", x.road(0, 1, 100), -6);
      check.is("too few", x.road(0, 1, -1), -4);
      check.is("as it was", x.road(0, 1, 0), 99);
    });
    doc.says("CAR at a PLACE (0 at first)", () -> {
      DownAmongFences x = new DownAmongFences();
      check.is("at first", x.count(17), 0);
      check.is("to the last", x.car(7), 0);
      check.is("no further", x.car(8), -1);
      check.is("it stays", x.count(17), 7);
    });
  }
}
