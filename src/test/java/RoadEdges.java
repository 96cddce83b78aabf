/** Part II of the document, the roads and the ROW: THE CAR, WAIT, TURNED, a TRACK; of part III CHASE, A TOUR, TWO CARS. */
final class RoadEdges {
  /** 0 - 1 - 2 - 3 in a line, 0 - 3 directly and long, 4 - 5 apart, 6 and 7 alone. */
  private static final String ROADS = "r0110;r1220;r2305;r0350;r4599;";
  private static final String ALL_IN_LINE = "r0199;r1299;r2399;r3499;r4599;r5699;r6799;";

  private final Sentences doc;
  private final Check check;

  RoadEdges(Sentences doc, Check check) {
    this.doc = doc;
    this.check = check;
  }

  void all() {
    doc.in("II");
    car();
    waitAt();
    mean();
    turned();
    track();
    doc.in("III");
    chase();
    tour();
    tourFirst();
    twoCars();
  }

  private void car() {
    doc.says("THE CAR: the fewest MINUTES from its PLACE to each (Dijkstra's way, any); -9 no way", () -> {
      DownAmongFences x = Tale.of(ROADS);
      int[] due = {0, 10, 30, 35, -9, -9, -9, -9};
      for (int place = 0; place < 8; place++) {
        check.is("to " + place, x.drive(place), due[place]);
      }
      x.road(0, 3, 35);
      check.is("as far directly", x.drive(3), 35);
      x.road(0, 3, 34);
      check.is("less far directly", x.drive(3), 34);
      x.car(7);
      check.is("where it is, without roads", x.drive(7), 0);
      check.is("from there no way", x.drive(0), -9);
      x = Tale.of(ALL_IN_LINE);
      check.is("the farthest of all", x.drive(7), 693);
      x.road(3, 4, 0);
      check.is("as far as it goes", x.drive(3), 297);
      check.is("no further", x.drive(4), -9);
      check.is("no roads", new DownAmongFences().drive(1), -9);
      for (int via = 0; via < 8; via++) {
        int from = (via + 3) % 8;
        int to = (via + 5) % 8;
        x = Tale.of("r" + from + via + "05;r" + via + to + "07;");
        x.car(from);
        check.is("by " + via, x.drive(to), 12);
      }
    });
  }

  private void waitAt() {
    doc.says("WAIT: a ROW tells for each PLACE how likely it is needed there (weights): the PLACE to wait at with the least mean "
        + "MINUTES (99 for no way, each), of several the least", () -> {
      DownAmongFences x = Tale.of(ROADS);
      int[][] rows = {{0, 0, 0, 0, 0, 0, 0, 0}, {0, 0, 0, 0, 0, 0, 0, 1}, {1, 0, 0, 0, 0, 0, 0, 1}, {0, 0, 0, 0, 1, 1, 0, 0},
          {0, 0, 0, 0, 1, 2, 0, 0}, {0, 1, 1, 0, 0, 0, 0, 0}, {99, 99, 99, 99, 99, 99, 99, 99}, {0, 0, 0, 0, 0, 0, 7, 7}};
      int[] due = {0, 7, 0, 4, 5, 1, 1, 6};
      for (int i = 0; i < rows.length; i++) {
        Tale.row(x, rows[i]);
        check.is("row " + i, x.waitAt(), due[i]);
      }
      x = Tale.of("r0199;r1201;");
      Tale.row(x, 1, 0, 0, 0, 0, 0, 0, 1);
      check.is("99 by a road is as good as no way", x.waitAt(), 0);
      Tale.row(x, 0, 0, 5, 4, 0, 0, 0, 0);
      check.is("each that has no way", x.meanWait(0), 44);
      x = Tale.of("r0150;r1250;");
      Tale.row(x, 5, 0, 5, 0, 0, 0, 0, 0);
      check.is("a way of 100 from 0, two of 50 from 1", x.waitAt(), 0);
      Tale.row(x, 1, 0, 5, 0, 0, 0, 0, 4);
      check.is("a way of 100 is a way, 99 is none", x.meanWait(0), 100 + 4 * 99 >> 1);
    });
  }

  private void mean() {
    doc.says("that mean (a fraction by all weights; 0 by 1: none)", () -> {
      DownAmongFences x = Tale.of(ROADS);
      int[][] rows = {{0, 0, 0, 0, 0, 0, 0, 0}, {0, 0, 9, 0, 0, 0, 0, 0}, {1, 0, 0, 0, 0, 0, 0, 1}, {4, 1, 1, 0, 0, 0, 0, 0},
          {99, 99, 99, 99, 99, 99, 99, 99}, {0, 0, 0, 0, 0, 0, 99, 1}};
      long[][] due = {{0, 1}, {0, 1}, {99, 2}, {20, 3}, {451, 8}, {99, 100}};
      for (int i = 0; i < rows.length; i++) {
        Tale.row(x, rows[i]);
        check.is("above, row " + i, x.meanWait(0), due[i][0]);
        check.is("below, row " + i, x.meanWait(1), due[i][1]);
      }
      x = Tale.of(ALL_IN_LINE);
      Tale.row(x, 1, 0, 0, 0, 0, 0, 0, 98);
      check.is("far to one", x.meanWait(0), 7);
      check.is("far to one", x.meanWait(1), 1);
    });
  }

  private void turned() {
    doc.says("TURNED: what it would cost if the ROAD of two PLACES is shut: MINUTES more from one to the other (-9 there is none "
        + "then, or now no ROAD)", () -> {
      DownAmongFences x = Tale.of(ROADS);
      check.is("the long way about", x.turned(0, 1), 65);
      check.is("a road that is not driven costs nothing", x.turned(0, 3), 0);
      check.is("no way then", x.turned(4, 5), -9);
      check.is("no road, but a way", x.turned(0, 2), -9);
      check.is("no road, no way", x.turned(6, 7), -9);
      check.is("in mind alone", x.drive(1), 10);
      x.road(0, 3, 35);
      check.is("as far both ways", x.turned(0, 3), 0);
      x.road(0, 3, 34);
      check.is("one more", x.turned(3, 0), 1);
      x.road(0, 1, 0);
      check.is("a road no more", x.turned(0, 1), -9);
    });
  }

  private void track() {
    doc.says("A TRACK: a ROW of pairs, how far to the side (and 50) and ahead it went in one STEP each: LAYERS (bits) that fit "
        + "some pair; the first pair that fits no LAYER; -9", () -> {
      DownAmongFences x = Tale.of("w0-90;w1+99;w2-11;w3+11;w4+01;w5+10;w6+11;w7+35;");
      int[][] rows = {{}, {41, 0}, {59, 9}, {49, 1}, {51, 1}, {50, 1}, {51, 0}, {53, 5}, {50, 0}, {40, 0}, {60, 9}, {59, 10},
          {41, 0, 50, 0}, {50, 0, 41, 0}, {41, 0, 59, 9, 49, 1, 51, 1, 50, 1, 0, 0}, {41, 0, 59, 9, 49, 1, 51, 1, 50, 1, 53, 5},
          {99, 99, 0, 0}, {41, 0, 41, 0}, {99, 0, 41, 0, 53, 5}};
      int[] bits = {0, 1, 2, 4, 72, 16, 32, 128, 0, 0, 0, 0, 1, 1, 95, 223, 0, 1, 129};
      int[] pairs = {-9, -9, -9, -9, -9, -9, -9, -9, 0, 0, 0, 0, 1, 0, 5, -9, 0, -9, 0};
      for (int i = 0; i < rows.length; i++) {
        Tale.row(x, rows[i]);
        check.is("layers, row " + i, x.track(0), bits[i]);
        check.is("the first pair, row " + i, x.track(1), pairs[i]);
      }
      Tale.row(x, 41);
      check.is("half a pair", x.track(0), -3);
      x = new DownAmongFences();
      Tale.row(x, 50, 0);
      check.is("calm in all layers", x.track(0), 255);
      Tale.row(x, 0, 50, 0, 0);
      check.is("the second of a pair and the first of the next are none", x.track(0), 0);
    });
  }

  private void chase() {
    doc.says("CHASE by a PLAN: MINUTES of THE CAR to the PLACE nearest to where it comes DOWN (X, of two the lesser); -9 not "
        + "DOWN, no way", () -> {
      int[][] cases = {{0, 0}, {50, 0}, {51, 1}, {99, 1}, {100, 1}, {149, 1}, {150, 1}, {151, 2}, {650, 6}, {651, 7}, {700, 7},
          {999, 7}};
      for (int[] c : cases) {
        DownAmongFences x = Tale.of("r0110;r0220;r0330;r0440;r0550;r0660;r0770;");
        Tale.bringTo(x, c[0]);
        check.is("X", x.count(2), c[0]);
        check.is("from X " + c[0], x.chase(0, 0, 0), 10 * c[1]);
      }
      DownAmongFences x = Tale.of("b60001;l0;h39;r0101;");
      check.is("not down", x.chase(0, 0, 0), -9);
      x = new DownAmongFences();
      check.is("no way", x.chase(0, 0, 0), -9);
      x.car(1);
      check.is("it is there", x.chase(0, 0, 0), 0);
    });
    doc.says("whether THE CAR is there by then, 6 STEPS a MINUTE (cut): 1, 0", () -> {
      int[][] cases = {{0, 0, 1}, {5, 0, 1}, {5, 1, 0}, {6, 1, 1}, {7, 1, 1}, {11, 1, 1}, {11, 2, 0}, {12, 2, 1}};
      for (int[] c : cases) {
        DownAmongFences x = fallingFor(c[0]);
        check.is("it falls for", x.plan(0, 0, 3), c[0]);
        if (c[1] == 0) {
          x.car(1);
        } else {
          x.road(0, 1, c[1]);
        }
        check.is("steps " + c[0] + ", minutes " + c[1], x.chase(0, 0, 1), c[2]);
        check.is("minutes", x.chase(0, 0, 0), c[1]);
      }
      check.is("no way, whether", new DownAmongFences().chase(0, 0, 1), -9);
      check.is("not down, whether", Tale.of("b60001;l0;h39;r0101;").chase(0, 0, 1), -9);
    });
  }

  /** One that comes DOWN behind just so many STEPS, if nothing is done. */
  private static DownAmongFences fallingFor(int steps) {
    DownAmongFences x = new DownAmongFences();
    x.set(2, 0);
    x.set(4, 0);
    for (int heat = 0; heat <= 60; heat++) {
      for (int height = steps == 0 ? 0 : 1; height < 3; height++) {
        x.set(1, heat);
        x.set(0, height);
        if (x.plan(0, 0, 3) == steps) {
          return x;
        }
      }
    }
    return x;
  }

  private void tour() {
    doc.says("A TOUR of PLACES (bits), from the CAR's on, in any order, the car need not come back: the fewest MINUTES; -9;",
        () -> {
      DownAmongFences x = Tale.of(ROADS);
      int[][] cases = {{0, 0}, {1, 0}, {2, 10}, {8, 35}, {9, 35}, {14, 35}, {15, 35}, {16, -9}, {128, -9}, {144, -9}, {255, -9}};
      for (int[] c : cases) {
        check.is("tour of " + c[0], x.tour(c[0], 0), c[1]);
      }
      x = Tale.of(ALL_IN_LINE);
      check.is("all, one way", x.tour(255, 0), 693);
      x.car(3);
      check.is("all, the shorter side first", x.tour(255, 0), 99 * 10);
      for (int at = 0; at < 8; at++) {
        DownAmongFences y = Tale.of("r0123;r0245;r1411;r2407;r3599;r0531;r5602;r6744;r1750;r2312;");
        y.car(at);
        for (int places = 1; places < 256; places += 127) {
          check.is("from " + at + " to " + places, y.tour(places, 0), Laws.tour(y, places)[0]);
        }
      }
    });
  }

  private void tourFirst() {
    doc.says("the first of these in such an order (one that is only gone through ahead of it does not count), of several the "
        + "least (-9 none, also if there is no other)", () -> {
      DownAmongFences x = Tale.of(ROADS);
      int[][] cases = {{0, -9}, {1, -9}, {2, 1}, {3, 1}, {8, 3}, {12, 2}, {13, 2}, {16, -9}, {18, -9}, {255, -9}};
      for (int[] c : cases) {
        check.is("tour of " + c[0], x.tour(c[0], 1), c[1]);
      }
      x.car(3);
      check.is("the car's own, and none", x.tour(8, 1), -9);
      check.is("the car's own is not the first", x.tour(12, 1), 2);
      x = Tale.of("r0310;r3110;r3210;");
      check.is("3 is one of these and gone through ahead of 1", x.tour(14, 1), 1);
      check.is("3 is none of these", x.tour(6, 1), 1);
      check.is("3 alone", x.tour(8, 1), 3);
      x = Tale.of("r0110;r1210;r2310;r3410;r4510;r5610;r6710;r7010;");
      check.is("both ways about are as good", x.tour(255, 1), 1);
      x.road(0, 1, 11);
      check.is("the other way about is better", x.tour(255, 1), 7);
      for (int at = 0; at < 8; at++) {
        DownAmongFences y = Tale.of("r0110;r0210;r1210;r2310;r1310;r3410;r4510;r5610;r6710;");
        y.car(at);
        for (int places = 1; places < 256; places += 63) {
          check.is("from " + at + ", tour of " + places, y.tour(places, 1), Laws.tour(y, places)[1]);
        }
      }
      DownAmongFences y = Tale.of(ROADS);
      y.car(1);
      check.is("the first place is the first", y.tour(1, 1), 0);
    });
  }

  private void twoCars() {
    doc.says("TWO CARS (the other at a PLACE): the PLACES (bits) that the other one is sooner at (not as soon)", () -> {
      DownAmongFences x = Tale.of(ROADS);
      check.is("at the same place", x.twoCars(0), 0);
      check.is("where this one has no way", x.twoCars(4), 16 + 32);
      check.is("alone at the last", x.twoCars(7), 128);
      check.is("at 3: 2 and 3", x.twoCars(3), 12);
      x.road(2, 3, 30);
      check.is("as soon at 2", x.twoCars(3), 8);
      x.road(2, 3, 29);
      check.is("sooner at 2", x.twoCars(3), 12);
      check.is("neither has a way to 7", x.twoCars(1) & 128, 0);
      x.car(1);
      check.is("at 0: 0 alone", x.twoCars(0), 1);
      x.car(7);
      check.is("this one has no way at all", x.twoCars(0), 15);
    });
  }
}
