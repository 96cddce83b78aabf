import java.util.Arrays;
import java.util.function.Supplier;

/** Part III of the document, the flight, THE IMAGE, fractions and what all REFUSALS have in common. */
final class MoreEdges {
  private static final String WINDS = "w0+11;w1+22;w2-33;w3+45;w4-15;w5+26;w6-37;w7+48;";
  private static final String DRY = "w0+21;w1-13;b17004;l0;h05;";

  private final Sentences doc;
  private final Check check;
  private final Twins twins;

  MoreEdges(Sentences doc, Check check) {
    this.doc = doc;
    this.check = check;
    this.twins = new Twins(check);
  }

  void all() {
    doc.in("III");
    crew();
    whichLag();
    windFor();
    span();
    flown();
    ceiling();
    game();
    gameSure();
    another();
    doc.in("THE IMAGE");
    image();
    doc.in("Fractions");
    fractions();
    doc.in("REFUSALS");
    refusals();
    refusalOrder();
    refusalsElsewhere();
  }

  private void crewIs(String land, String field, int people, int cost) {
    DownAmongFences x = Tale.of(land, field);
    check.is("crew of " + land, x.crew(0), people);
    check.is("its cost", x.crew(1), cost);
    for (int q = 1; q <= 6; q++) {
      x.set(3, q);
      check.holds(q + " are no better", x.best(1) >= cost);
      check.holds(q + " are fewer, so worse", q >= people || x.best(1) > cost);
    }
    x.set(3, people);
    check.is("with them", x.best(1), cost);
  }

  private void crew() {
    doc.says("CREW: the PEOPLE (1 .. 6) with whom BEST COST is least, of several the fewest;", () -> {
      crewIs(DRY, Tale.field(0, 0, 900, 900, 1), 1, 40);
      crewIs(DRY, Tale.field(0, 0, 102, 22, 1), 1, 2);
      crewIs(DRY, Tale.field(0, 0, 108, 4, 1), 4, 2);
      crewIs("w7+09;w6+13;w5-15;w4+23;w3-22;w2+11;w1+11;w0+11;b20306;l0;h32;", Tale.field(0, 0, 134, 109, 1), 6, 12);
      crewIs("b60304;", Tale.field(0, 0, 100, 0, 1), 1, 0);
      crewIs("w0+90;", Tale.field(4, 0, 100, 0, 2), 4, 0);
      crewIs("w0+90;", Tale.field(4, 0, 100, 0, 1), 1, 20);
    });
    doc.says("-9 it never comes DOWN; that COST", () -> {
      // Five PULLS bring down whoever is on board, so that there is always somebody.
      DownAmongFences x = Tale.of("b60601;l5;h39;a11111;");
      x.set(1, 60);
      check.is("one alone, as hot as can be", x.crew(0), 1);
      check.is("that cost", x.crew(1), 40);
    });
  }

  private void whichLag() {
    doc.says("WHICH LAG: LAGS (bits; what is under way is lost with another one) by which HEIGHTS behind 1, 2, .. STEPS of HOLD "
        + "are just as the ROW tells", () -> {
      Supplier<DownAmongFences> make = () -> Tale.of("b17304;l2;h20;a12;");
      check.is("an empty row fits all", make.get().whichLag(), 63);
      for (int lag = 0; lag <= 5; lag++) {
        int[] heights = heightsUnder(make, lag);
        int due = 0;
        for (int other = 0; other <= 5; other++) {
          due |= Arrays.equals(heightsUnder(make, other), heights) ? 1 << other : 0;
        }
        DownAmongFences x = make.get();
        Tale.row(x, heights);
        check.is("heights of lag " + lag, x.whichLag(), due);
        heights[11]++;
        Tale.row(x, heights);
        check.is("the last is not so", x.whichLag(), 0);
      }
      DownAmongFences x = Tale.of("b17304;l2;h05;a1;");
      Tale.row(x, 3, 3);
      check.is("under way: 2; lost: 1", x.whichLag(), 6);
    });
  }

  /** HEIGHTS behind 12 STEPS of HOLD, really gone: FIRE and PULL stay under way under LAG 2 alone. */
  private static int[] heightsUnder(Supplier<DownAmongFences> make, int lag) {
    DownAmongFences x = make.get();
    x.set(4, lag);
    return lag == 2 ? Laws.heightsOfHold(x, 12, 4, -5) : Laws.heightsOfHold(x, 12, new int[lag]);
  }

  private void windFor() {
    doc.says("WIND FOR a FIELD by a PLAN: how many SIDES (-9 .. 9) of the LAYER it is in now (all else as it is) there are by "
        + "which it comes DOWN in it; the least of these and 9 (-9 none)", () -> {
      String land = "w0+21;w1+33;b16004;l0;h04;";
      String[] fields = {Tale.field(0, 0, 85, 0, 30), Tale.field(0, 0, 118, 0, 30), Tale.field(0, 0, 72, 0, 11),
          Tale.field(0, 0, 119, 0, 30), Tale.field(0, 0, 100, 0, 1), Tale.field(0, 0, 90, 1, 30)};
      for (String field : fields) {
        DownAmongFences x = Tale.of(land, field);
        DownAmongFences y = Tale.of(land, field);
        int many = 0;
        int least = -9;
        for (int side = 9; side >= -9; side--) {
          y.wind(0, side, 1);
          if (y.plan(3, 1, 4) == 0) {
            many++;
            least = side + 9;
          }
        }
        check.is("how many into " + field, x.windFor(0, 3, 1, 0), many);
        check.is("the least into " + field, x.windFor(0, 3, 1, 1), least);
      }
      DownAmongFences x = Tale.of("b13004;l0;h02;w0+00;", Tale.field(0, 0, 100, 0, 1));
      check.is("whatever the wind, all 19", x.windFor(0, 0, 0, 0), 19);
      check.is("the least of all", x.windFor(0, 0, 0, 1), 0);
      x = Tale.of("b17004;l0;h02;w0+00;", Tale.field(0, 0, 109, 0, 1) + Tale.field(0, 0, 91, 0, 1)
          + Tale.field(0, 0, 110, 0, 1));
      check.is("one step in the wind: 9 alone", x.windFor(0, 0, 0, 0), 1);
      check.is("9 and 9", x.windFor(0, 0, 0, 1), 18);
      check.is("-9 alone", x.windFor(1, 0, 0, 0), 1);
      check.is("-9 and 9", x.windFor(1, 0, 0, 1), 0);
      check.is("10 is none", x.windFor(2, 0, 0, 0), 0);
      check.is("10 is none", x.windFor(2, 0, 0, 1), -9);
      x = Tale.of("w0+11;w1-80;b17004;l0;h05;", Tale.field(0, 0, 104, 4, 1));
      check.is("it is in layer 1 and goes in layer 0", x.windFor(0, 0, 0, 0), 19);
      check.is("down now: by any", Tale.of("b60304;", Tale.field(0, 0, 100, 0, 1)).windFor(0, 30, 5, 0), 19);
    });
  }

  private void span() {
    doc.says("SPAN of a FIELD by p PULLS: the first, the last k (0 .. 30) by which it comes DOWN in it; -9", () -> {
      String[] fields = {Tale.field(0, 0, 102, 1, 1), Tale.field(0, 0, 104, 2, 1), Tale.field(0, 0, 106, 3, 1),
          Tale.field(0, 0, 108, 4, 1), Tale.field(0, 0, 900, 900, 30), Tale.field(0, 0, 85, 0, 30)};
      for (int i = 0; i < fields.length; i++) {
        DownAmongFences x = Tale.of(DRY, fields[i]);
        for (int p = 0; p <= 5; p += i < 4 ? 1 : 5) {
          int first = -9;
          int last = -9;
          for (int k = 30; k >= 0; k--) {
            if (x.plan(k, p, 4) == 0) {
              first = k;
              last = Math.max(last, k);
            }
          }
          check.is("the first, field " + i + ", pulls " + p, x.span(0, p, 0), first);
          check.is("the last, field " + i + ", pulls " + p, x.span(0, p, 1), last);
        }
      }
      DownAmongFences x = Tale.of(DRY, Tale.field(0, 0, 85, 0, 30));
      check.is("all: the first", x.span(0, 0, 0), 0);
      check.is("all: the last", x.span(0, 5, 1), 30);
      x = Tale.of("w7+09;w6+13;w5-15;w4+23;w3-22;w2+11;w1+11;w0+11;b20306;l0;h32;", Tale.field(0, 0, 134, 109, 1));
      check.is("30 alone: the first", x.span(0, 5, 0), 30);
      check.is("30 alone: the last", x.span(0, 5, 1), 30);
      check.is("none", x.span(0, 4, 0), -9);
      check.is("none", x.span(0, 4, 1), -9);
    });
  }

  private void flownIs(String land, int... row) {
    DownAmongFences x = Tale.of(WINDS, land);
    Tale.row(x, row);
    DownAmongFences y = Tale.of(WINDS, land);
    for (int v : row) {
      if (y.go(v % 3) == -3) {
        y.go(0);
      }
    }
    int[] counts = {1, 2, 3, 4, 5};
    for (int what = 0; what < 5; what++) {
      check.is("flown(" + what + ") of " + land, x.flown(what), y.count(counts[what]));
    }
    check.is("in mind", x.count(8), 0);
  }

  private void flown() {
    doc.says("FLOWN: the ROW as ACTS (0 .. 2 modulo 3; FIRE without GAS: nothing), in mind", () -> {
      flownIs("b25304;l2;h20;");
      flownIs("b25304;l2;h20;", 0);
      flownIs("b25304;l2;h20;", 1);
      flownIs("b25304;l2;h20;", 2);
      flownIs("b25304;l0;h20;", 3, 4, 5);
      flownIs("b25304;l0;h20;", 99, 98, 97);
      flownIs("b25024;l1;h20;", 1, 1, 1, 1);
      flownIs("b25004;l0;h20;", 1, 94, 1);
      flownIs("b60014;l0;", 1, 1, 1, 2, 2, 2, 0, 0, 0, 1, 2, 0);
      DownAmongFences x = Tale.of("b40004;l0;");
      Tale.row(x, 1);
      check.is("fire without gas", x.flown(3), 39);
      x.set(2, 1);
      check.is("with the last", x.flown(3), 43);
      check.is("none then", x.flown(4), 0);
    });
  }

  private void ceilingIs(String land) {
    DownAmongFences x = Tale.of(land);
    DownAmongFences y = Tale.of(land);
    int most = y.count(1);
    int step = 0;
    for (int i = 1; i <= 60; i++) {
      if (y.go(1) == -3) {
        y.go(0);
      }
      if (y.count(1) > most) {
        most = y.count(1);
        step = i;
      }
    }
    check.is("ceiling of " + land, x.ceiling(0), most);
    check.is("the fewest steps to it", x.ceiling(1), step);
  }

  private void ceiling() {
    doc.says("CEILING: the greatest HEIGHT in 60 STEPS, if FIRE is all that is done (without GAS nothing); the fewest STEPS to "
        + "it", () -> {
      ceilingIs("b00606;l5;");
      ceilingIs("b00006;l0;h20;");
      ceilingIs("b24006;l0;h20;");
      ceilingIs("b30016;l5;h20;");
      ceilingIs("b60606;l0;h39;");
      ceilingIs("b60606;l0;h30;");
      for (int gas = 0; gas <= 9; gas++) {
        ceilingIs("b240" + gas + "4;l3;h05;");
      }
      DownAmongFences x = Tale.of("b60606;l0;h39;");
      check.is("no higher", x.ceiling(0), 39);
      check.is("no step", x.ceiling(1), 0);
      x = Tale.of("b00006;l0;");
      check.is("nothing at all", x.ceiling(0), 0);
      check.is("nothing at all", x.ceiling(1), 0);
    });
  }

  /** By choices 0, 1, 2 it comes DOWN at X 104, 108, 108, with SIDES turned about at 96, 92, 92; at Y 2, 4, 4. */
  private static DownAmongFences player(String... fields) {
    DownAmongFences x = Tale.of(DRY);
    for (String f : fields) {
      Tale.tell(x, f);
    }
    return x;
  }

  private void game() {
    doc.says("one chooses a PLAN of k 0, 5, 10 and p 1 (a choice 0, 1, 2), the air all SIDES as they are or turned about (0, 1): "
        + "one loses COST (40 if it is not DOWN)", () -> {
      DownAmongFences x = player();
      int[] ks = {0, 5, 10};
      int[] xs = {104, 108, 108};
      for (int i = 0; i < 3; i++) {
        check.is("choice " + i + " goes to", x.plan(ks[i], 1, 0), xs[i]);
      }
      check.is("outside of all", x.game(1), 40);
      check.is("the first pair", x.game(0), 0);
      x = Tale.of("b60601;l5;h39;a11111;", Tale.field(0, 0, 90, 0, 30));
      x.set(1, 60);
      check.is("not down", x.plan(0, 1, 0), -9);
      check.is("40 for it", x.game(1), 40);
      check.is("40 for it is sure", x.game(2), 40);
    });
    doc.says("the air wants it most: the first pair (10 the choice and the air's) by which neither has it better by another "
        + "choice alone; -9;", () -> {
      String cheap0 = Tale.field(0, 0, 104, 2, 1);
      String cheap1 = Tale.field(0, 0, 96, 2, 1);
      DownAmongFences x = player(cheap0, cheap1);
      check.is("the same for the air: the first", x.game(0), 0);
      check.is("its cost", x.game(1), 2);
      x = player(cheap0);
      check.is("better for the air turned about", x.game(0), 1);
      check.is("its cost", x.game(1), 40);
      x = player(Tale.field(0, 0, 108, 4, 1), Tale.field(0, 0, 92, 4, 1));
      check.is("1 and 2 are as good: the first", x.game(0), 10);
      check.is("its cost", x.game(1), 2);
      x = player(cheap0, Tale.field(1, 0, 96, 2, 1), Tale.field(3, 4, 108, 4, 1), Tale.field(3, 1, 92, 4, 1));
      check.is("always one has it better", x.game(0), -9);
      check.is("no cost", x.game(1), -9);
      int[][] figures = {{5, 3, 7, 1, 9, 0}, {3, 5, 1, 7, 0, 9}, {7, 1, 5, 3, 9, 0}, {1, 7, 3, 5, 0, 9}, {7, 1, 9, 0, 5, 3},
          {1, 7, 0, 9, 3, 5}, {0, 9, 9, 0, 9, 9}, {5, 5, 5, 5, 5, 5}, {6, 6, 5, 5, 5, 5}, {6, 6, 6, 6, 5, 5},
          {6, 6, 6, 6, 4, 5}};
      int[] pairs = {0, 1, 10, 11, 20, 21, -9, 0, 10, 20, 21};
      for (int i = 0; i < figures.length; i++) {
        x = losing(figures[i]);
        check.is("the first pair of " + i, x.game(0), pairs[i]);
        check.is("its cost of " + i, x.game(1), pairs[i] < 0 ? -9 : 2 + figures[i][pairs[i] / 10 * 2 + pairs[i] % 10]);
      }
    });
  }

  /**
   * One that comes DOWN at six places by the choices 0, 1, 2 and those of the air, and loses 2 and a FIGURE at each; where it
   * would by k 15, which is no choice, it would lose no more than 2.
   */
  private static DownAmongFences losing(int... figures) {
    DownAmongFences x = Tale.of("w0+21;w1-13;w2+32;w3+11;b17304;l0;h05;");
    int[][] places = {{104, 2}, {96, 2}, {101, 18}, {99, 18}, {94, 32}, {106, 32}};
    for (int i = 0; i < 6; i++) {
      Tale.tell(x, Tale.field(3, figures[i], places[i][0], places[i][1], 1));
    }
    Tale.tell(x, Tale.field(0, 0, 93, 49, 1) + Tale.field(0, 0, 107, 49, 1));
    return x;
  }

  private void gameSure() {
    doc.says("SURE: the least one can lose whatever the air does", () -> {
      check.is("outside of all", player().game(2), 40);
      check.is("one side alone", player(Tale.field(0, 0, 104, 2, 1)).game(2), 40);
      check.is("both", player(Tale.field(0, 0, 104, 2, 1), Tale.field(1, 0, 96, 2, 1)).game(2), 7);
      check.is("the better choice", player(Tale.field(0, 0, 104, 2, 1), Tale.field(1, 0, 96, 2, 1),
          Tale.field(3, 4, 108, 4, 1), Tale.field(3, 1, 92, 4, 1)).game(2), 6);
      int[][] figures = {{5, 3, 7, 1, 9, 0}, {0, 9, 8, 0, 9, 9}, {9, 0, 0, 9, 8, 8}, {0, 7, 7, 0, 6, 9}, {9, 9, 9, 9, 9, 9},
          {0, 9, 9, 0, 1, 3}};
      int[] due = {5, 8, 8, 7, 9, 3};
      for (int i = 0; i < figures.length; i++) {
        check.is("figures " + i, losing(figures[i]).game(2), 2 + due[i]);
      }
      check.is("the last choice's is as good", player(Tale.field(0, 0, 108, 4, 1), Tale.field(0, 0, 92, 4, 1)).game(2), 2);
    });
  }

  private void another() {
    doc.says("ANOTHER balloon, as this one but with q PEOPLE (1 .. 6), by the same PLAN: how far apart both come DOWN (X and Y "
        + "together); -9 either does not", () -> {
      String land = WINDS + "b25204;l1;h22;";
      for (int q = 1; q <= 6; q++) {
        DownAmongFences x = Tale.of(land);
        DownAmongFences y = Tale.of(land);
        y.set(3, q);
        int apart = Math.abs(x.plan(4, 2, 0) - y.plan(4, 2, 0)) + Math.abs(x.plan(4, 2, 1) - y.plan(4, 2, 1));
        check.is("with " + q, x.another(4, 2, q), apart);
      }
      DownAmongFences x = Tale.of(land);
      check.is("as many", x.another(30, 5, 4), 0);
      check.is("too few", x.another(0, 0, 0), -4);
      check.is("too many", x.another(0, 0, 7), -6);
      x = Tale.of("b55001;l0;h39;");
      check.is("this one does not", x.another(0, 0, 6), -9);
      check.is("neither does", x.another(0, 0, 1), -9);
      x.set(3, 6);
      check.is("the other does not", x.another(0, 0, 1), -9);
      check.is("both do", x.another(0, 0, 6), 0);
    });
  }

  private void image() {
    doc.says("THE IMAGE: all that there is, but it, letters, the ROW, REFUSALS", () -> {
      Supplier<DownAmongFences> make = () -> Tale.of("w3-45;f1205000530;r0105;b33204;l3;h12;a12;");
      DownAmongFences x = make.get();
      x.car(3);
      x.image();
      Tale.tell(x, "w3+11;f0000000001;r0100;r1205;b01016;l3;h00;a000;");
      x.car(4);
      x.feed('h');
      x.row(3);
      x.row(4);
      x.go(7);
      x.go(0);
      x.image();
      Tale.tell(x, "w3+12;");
      x.feed('h');
      check.is("the later one is the image", x.restore(), 6);
      check.is("with its wind", x.layer(3, 1), 1);
      DownAmongFences y = make.get();
      y.car(3);
      y.image();
      Tale.tell(y, "w3+11;f0000000001;r0100;r1205;b01016;l3;h00;a000;");
      y.car(4);
      y.feed('0');
      y.row(3);
      y.row(4);
      y.go(7);
      y.go(0);
      check.is("restored", y.restore(), 2);
      check.is("the image stays", y.restore(), 2);
      check.is("letters are not in it", y.count(9), 1);
      check.is("the row is not in it", y.count(10), 2);
      check.is("refusals are not in it", y.count(12), 1);
      DownAmongFences twin = make.get();
      twin.car(3);
      twin.image();
      twin.feed('0');
      twin.row(3);
      twin.row(4);
      twins.alike("all else is, what is under way, too", y, twin);
    });
  }

  private void fractions() {
    doc.says("Fractions are told in least terms", () -> {
      DownAmongFences x = Tale.of("r0106;");
      int[][] rows = {{4, 2}, {3, 3}, {5, 1}, {1, 5}, {99, 99}, {99, 98}, {2, 0}, {0, 0}};
      long[][] due = {{2, 1}, {3, 1}, {1, 1}, {1, 1}, {3, 1}, {588, 197}, {0, 1}, {0, 1}};
      for (int i = 0; i < rows.length; i++) {
        Tale.row(x, rows[i][0], rows[i][1], 0, 0, 0, 0, 0, 0);
        check.is("above, row " + i, x.meanWait(0), due[i][0]);
        check.is("below, row " + i, x.meanWait(1), due[i][1]);
      }
    });
  }

  private void refusals() {
    doc.says("(the call answers the number, the first that fits in the order in which it tells them; nothing changes but how many "
        + "there were)", () -> {
      twins.refused("nobody", -1, x -> x.car(8));
      twins.refused("other", -2, x -> x.go(3));
      twins.refused("state", -3, x -> x.waitAt());
      twins.refused("below", -4, x -> x.feed(-1));
      twins.refused("room", -6, x -> x.set(0, 40));
      DownAmongFences x = new DownAmongFences();
      for (int i = 1; i <= 20; i++) {
        x.car(8);
        check.is("so many were refused", x.count(11), i);
      }
      check.is("no other", x.count(12) + x.count(13) + x.count(14) + x.count(15) + x.count(16), 0);
    });
    doc.says("-1 NOBODY: no such LAYER, FIELD, PLACE, one twice. -2 OTHER: what, ACT. -3 STATE: it is not as told. -4 BELOW: a "
        + "number below the least. -6 ROOM: a number above the greatest, no room", () -> {
      twins.refused("no such layer", -1, x -> x.wind(8, 0, 0));
      twins.refused("no such field", -1, x -> x.field(2, 0));
      twins.refused("no such place", -1, x -> x.drive(8));
      twins.refused("one twice", -1, x -> x.road(3, 3, 1));
      twins.refused("what", -2, x -> x.best(2));
      twins.refused("act", -2, x -> x.go(-1));
      twins.refused("not as told", -3, DownAmongFences::new, x -> x.restore());
      twins.refused("below the least", -4, x -> x.lots(0, 0, 0));
      twins.refused("above the greatest", -6, x -> x.lots(21, 0, 0));
      twins.refused("no room", -6, MoreEdges::fullRow, x -> x.row(1));
    });
  }

  private static DownAmongFences fullRow() {
    DownAmongFences x = Twins.busy();
    while (x.count(10) < 12) {
      x.row(5);
    }
    return x;
  }

  private void refusalOrder() {
    doc.says("the first that fits in the order in which it tells them", () -> {
      twins.refused("wind: -1 ahead of -4", -1, x -> x.wind(8, -10, 0));
      twins.refused("wind: -4 ahead of -6", -4, x -> x.wind(0, 10, -1));
      twins.refused("had: -1 ahead of -2", -1, x -> x.had(2, 3));
      twins.refused("go: -3 ahead of -6", -3, MoreEdges::lastStepWithoutGas, x -> x.go(1));
      twins.refused("go: -2 ahead of -6", -2, MoreEdges::lastStepWithoutGas, x -> x.go(3));
      twins.refused("plan: -4 ahead of -6", -4, x -> x.plan(31, -1, 0));
      twins.refused("plan: -6 ahead of -2", -6, x -> x.plan(31, 0, 6));
      twins.refused("track: -2 ahead of -3", -2, x -> x.track(2));
    });
  }

  /** Only beyond the 512 calls that are promised; the class goes on the same. */
  private static DownAmongFences lastStepWithoutGas() {
    DownAmongFences x = StateEdges.farAlong(999);
    x.set(2, 0);
    return x;
  }

  private void refusalsElsewhere() {
    doc.says("Of layer(), goingOn() 1000000000 less them (-1 as 1000000001), of longs 4000000000000000000 less them (-1 as "
        + "4000000000000000001)", () -> {
      twins.refused("layer -1", 1000000001, x -> x.layer(8, 0));
      twins.refused("layer -2", 1000000002, x -> x.layer(0, 2));
      twins.refused("goingOn -4", 1000000004, x -> x.goingOn(-1));
      twins.refused("goingOn -6", 1000000006, x -> x.goingOn(21));
      twins.refused("meanWait -3", 4000000000000000003L, x -> x.meanWait(0));
      twins.refused("meanWait -2", 4000000000000000002L, MoreEdges::eightInRow, x -> x.meanWait(2));
    });
  }

  static DownAmongFences eightInRow() {
    DownAmongFences x = Twins.busy();
    while (x.count(10) < 8) {
      x.row(5);
    }
    return x;
  }
}
