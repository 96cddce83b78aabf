/** Promises 24 to 29 and 43 to 45: ROADS, THE CAR, where it is to wait and what it can reach. */
public final class RoadPromisesTest {
  private static final int MIN = Integer.MIN_VALUE;
  private static final int MAX = Integer.MAX_VALUE;
  private static final Check check = new Check();

  /** 0 - 1 - 2 - 3 in a line, 0 - 3 directly and long, 4 - 5 apart, 6 and 7 alone. */
  private static final String ROADS = "r0110;r1220;r2305;r0350;r4599;";

  public static void main(String[] args) {
    road();
    roadRefused();
    car();
    drive();
    waitAt();
    meanWait();
    meanOfNothing();
    turned();
    chase();
    chaseNearest();
    tour();
    tourFirst();
    tourRefused();
    twoCars();
    check.end();
  }

  private static void road() {
    DownAmongFences x = new DownAmongFences();
    check.is("24: none", x.road(0, 7, 99), 0);
    check.is("24: what it was, from the other", x.road(7, 0, 1), 99);
    check.is("24: what it was", x.road(0, 7, 0), 1);
    check.is("24: none again", x.road(0, 7, 0), 0);
    check.is("24: no way", x.drive(7), -9);
    check.is("24: another", x.road(6, 7, 5), 0);
    check.is("24: is another", x.road(7, 6, 5), 5);
  }

  private static void roadRefused() {
    DownAmongFences x = new DownAmongFences();
    int[][] roads = {{0, 0, 1}, {7, 7, -1}, {8, 0, -1}, {0, 8, 100}, {-1, 0, 1}, {0, -1, 1}, {MIN, MAX, MIN},
        {0, 1, -1}, {0, 1, MIN}, {0, 1, 100}, {0, 1, MAX}};
    int[] due = {-1, -1, -1, -1, -1, -1, -1, -4, -4, -6, -6};
    for (int i = 0; i < roads.length; i++) {
      check.is("24: refused " + i, x.road(roads[i][0], roads[i][1], roads[i][2]), due[i]);
    }
    check.is("24: refusals", x.count(11) * 100 + x.count(14) * 10 + x.count(16), 722);
    check.is("24: nothing changed", x.road(0, 1, 0), 0);
  }

  private static void car() {
    DownAmongFences x = new DownAmongFences();
    check.is("25: where it was", x.car(7), 0);
    check.is("25: where it was", x.car(3), 7);
    check.is("25: where it was", x.car(3), 3);
    check.is("25: no place", x.car(8), -1);
    check.is("25: no place", x.car(-1), -1);
    check.is("25: no place", x.car(MAX), -1);
    check.is("25: it is", x.count(17), 3);
    check.is("25: refusals", x.count(11), 3);
  }

  private static void drive() {
    DownAmongFences x = Tale.of(ROADS);
    int[] due = {0, 10, 30, 35, -9, -9, -9, -9};
    for (int place = 0; place < 8; place++) {
      check.is("26: to " + place, x.drive(place), due[place]);
    }
    x.car(3);
    check.is("26: back by the line", x.drive(0), 35);
    x.road(0, 3, 34);
    check.is("26: directly", x.drive(0), 34);
    x.car(5);
    check.is("26: far", x.drive(4), 99);
    check.is("26: no place", x.drive(8), -1);
    check.is("26: no place", x.drive(-1), -1);
    x = Tale.of("r0799;r7199;r1699;r6299;r2599;r5399;r3499;");
    check.is("26: through all", x.drive(4), 693);
  }

  private static void waitAt() {
    DownAmongFences x = Tale.of(ROADS);
    Tale.row(x, 0, 0, 1, 0, 0, 0, 0, 0);
    check.is("27: where it is needed", x.waitAt(), 2);
    Tale.row(x, 1, 0, 0, 0, 0, 0, 0, 1);
    check.is("27: of several the least", x.waitAt(), 0);
    Tale.row(x, 0, 0, 0, 1, 0, 0, 0, 1);
    check.is("27: 3 or 7", x.waitAt(), 3);
    Tale.row(x, 0, 0, 0, 0, 9, 10, 0, 0);
    check.is("27: 99 to the other", x.waitAt(), 5);
    Tale.row(x, 5, 0, 0, 6, 0, 0, 0, 0);
    check.is("27: three", x.waitAt(), 3);
    check.is("27: the row stays", x.count(10), 8);
    Tale.row(x, 0, 0, 0, 0, 0, 0, 0, 0);
    check.is("27: no weights", x.waitAt(), 0);
    Tale.row(x, 1, 1, 1, 1, 1, 1, 1);
    check.is("27: seven", x.waitAt(), -3);
    Tale.row(x, 1, 1, 1, 1, 1, 1, 1, 1, 1);
    check.is("27: nine", x.waitAt(), -3);
    check.is("27: refusals", x.count(13), 2);
    x = Tale.of("r0180;r1280;");
    Tale.row(x, 1, 0, 4, 0, 0, 0, 0, 0);
    check.is("27: a way of 160 is no better than none", x.waitAt(), 2);
    check.is("28: it is longer than none", x.meanWait(0), 32);
    Tale.row(x, 4, 0, 3, 2, 0, 0, 0, 0);
    check.is("27: from 3 there is no way", x.waitAt(), 0);
  }

  private static void meanWait() {
    DownAmongFences x = Tale.of(ROADS);
    Tale.row(x, 4, 1, 1, 0, 0, 0, 0, 0);
    check.is("28: 40 by 6 above", x.meanWait(0), 20);
    check.is("28: 40 by 6 below", x.meanWait(1), 3);
    Tale.row(x, 0, 0, 7, 0, 0, 0, 0, 0);
    check.is("28: at once above", x.meanWait(0), 0);
    check.is("28: at once below", x.meanWait(1), 1);
    Tale.row(x, 3, 0, 0, 0, 0, 0, 0, 1);
    check.is("28: no way above", x.meanWait(0), 99);
    check.is("28: no way below", x.meanWait(1), 4);
    Tale.row(x, 99, 99, 99, 99, 99, 99, 99, 99);
    check.is("28: all alike, 1 and 2 as good", x.waitAt(), 1);
    check.is("28: all alike above", x.meanWait(0), 451);
    check.is("28: all alike below", x.meanWait(1), 8);
    check.is("28: what is no part", x.meanWait(2), 4000000000000000002L);
    check.is("28: what is no part", x.meanWait(-1), 4000000000000000002L);
    x.row(1);
    check.is("28: nine come first", x.meanWait(2), 4000000000000000003L);
    check.is("28: refusals", x.count(12) * 10 + x.count(13), 21);
  }

  private static void meanOfNothing() {
    DownAmongFences x = Tale.of(ROADS);
    Tale.row(x, 0, 0, 0, 0, 0, 0, 0, 0);
    check.is("28: none above", x.meanWait(0), 0);
    check.is("28: none below", x.meanWait(1), 1);
  }

  private static void turned() {
    DownAmongFences x = Tale.of(ROADS);
    check.is("29: the line shut", x.turned(0, 1), 65);
    check.is("29: from the other", x.turned(1, 0), 65);
    check.is("29: what is not driven", x.turned(0, 3), 0);
    check.is("29: none then", x.turned(4, 5), -9);
    check.is("29: no road", x.turned(0, 2), -9);
    check.is("29: no road, no way", x.turned(6, 7), -9);
    check.is("29: in mind", x.drive(1), 10);
    check.is("29: one twice", x.turned(3, 3), -1);
    check.is("29: no place", x.turned(0, 8), -1);
    check.is("29: no place", x.turned(-1, 0), -1);
    check.is("29: refusals", x.count(11), 3);
  }

  /** Comes DOWN at (120, 0) behind 5 STEPS, and at (100 + 5 n, ..) behind more of HOLD. */
  private static void chase() {
    DownAmongFences x = Tale.of("w0+50;w1+50;b17304;l0;h05;r0101;r1201;");
    check.is("43: minutes", x.chase(0, 0, 0), 1);
    check.is("13: behind 5", x.plan(0, 0, 3), 5);
    check.is("43: 5 steps are no minute", x.chase(0, 0, 1), 0);
    check.is("13: behind 9", x.plan(1, 0, 3), 9);
    check.is("43: 9 steps are one", x.chase(1, 0, 1), 1);
    x.road(0, 1, 2);
    check.is("43: not two", x.chase(1, 0, 1), 0);
    check.is("43: two", x.chase(1, 0, 0), 2);
    x.car(1);
    check.is("43: it is there", x.chase(0, 0, 0), 0);
    check.is("43: it is there by then", x.chase(0, 0, 1), 1);
    x.car(5);
    check.is("43: no way", x.chase(0, 0, 0), -9);
    check.is("43: no way", x.chase(0, 0, 1), -9);
    x = Tale.of("b55001;l0;h39;");
    x.car(1);
    check.is("43: not down", x.chase(0, 0, 0), -9);
    check.is("43: not down", x.chase(0, 0, 1), -9);
    x = Tale.of("b18301;l0;");
    x.car(1);
    check.is("43: down now", x.chase(9, 5, 0) * 10 + x.chase(9, 5, 1), 1);
    x = Tale.of("b28301;l0;h39;r0104;");
    check.is("13: behind 34", x.plan(0, 0, 3), 34);
    check.is("43: five minutes, cut", x.chase(0, 0, 1), 1);
    x.road(0, 1, 5);
    check.is("43: five", x.chase(0, 0, 1), 1);
    x.road(0, 1, 6);
    check.is("43: six", x.chase(0, 0, 1), 0);
  }

  private static void chaseNearest() {
    int[][] cases = {{100, 1}, {149, 1}, {150, 1}, {151, 2}, {250, 2}, {349, 3}, {650, 6}, {651, 7}, {700, 7},
        {999, 7}, {50, 0}, {51, 1}, {0, 0}};
    for (int[] c : cases) {
      DownAmongFences x = Tale.of("r0110;r0220;r0330;r0440;r0550;r0660;r0770;");
      Tale.bringTo(x, c[0]);
      check.is("43: x is", x.count(2), c[0]);
      check.is("43: nearest to " + c[0], x.chase(0, 0, 0), 10 * c[1]);
    }
  }

  private static void tour() {
    DownAmongFences x = Tale.of(ROADS);
    int[][] tours = {{0, 0, -9}, {1, 0, -9}, {2, 10, 1}, {3, 10, 1}, {8, 35, 3}, {12, 35, 2}, {14, 35, 1}, {15, 35, 1},
        {16, -9, -9}, {18, -9, -9}, {255, -9, -9}};
    for (int[] t : tours) {
      check.is("44: minutes of " + t[0], x.tour(t[0], 0), t[1]);
      check.is("44: first of " + t[0], x.tour(t[0], 1), t[2]);
    }
    x.car(1);
    check.is("44: 0 and 2", x.tour(5, 0), 40);
    check.is("44: 0 first", x.tour(5, 1), 0);
    check.is("44: 0, 2 and 3", x.tour(13, 0), 45);
    check.is("44: its own place, too", x.tour(15, 0), 45);
    x.car(6);
    check.is("44: the car's own", x.tour(64, 0), 0);
    check.is("44: no other", x.tour(64, 1), -9);
  }

  private static void tourFirst() {
    DownAmongFences x = Tale.of("r0310;r3110;r3210;");
    check.is("44: 3 is gone through", x.tour(14, 0), 40);
    check.is("44: what is gone through does not count", x.tour(14, 1), 1);
    x.road(3, 1, 11);
    check.is("44: 2 ahead of 1", x.tour(14, 0), 41);
    check.is("44: so 2, or 3, is the first", x.tour(14, 1), 2);
    x.road(3, 1, 9);
    check.is("44: 1 ahead of 2", x.tour(14, 1), 1);
    x = Tale.of("r0110;r1210;r2310;r3410;r4510;r5610;r6710;r7010;");
    check.is("44: a ring", x.tour(255, 0), 70);
    check.is("44: of both ways the least", x.tour(255, 1), 1);
    x.road(0, 1, 11);
    check.is("44: the other way about", x.tour(255, 1), 7);
    check.is("44: the other way about", x.tour(255, 0), 70);
  }

  private static void tourRefused() {
    DownAmongFences x = new DownAmongFences();
    int[][] tours = {{-1, 9}, {MIN, 0}, {256, 9}, {MAX, 0}, {255, 2}, {0, -1}};
    int[] due = {-4, -4, -6, -6, -2, -2};
    for (int i = 0; i < tours.length; i++) {
      check.is("44: refused " + i, x.tour(tours[i][0], tours[i][1]), due[i]);
    }
    check.is("44: refusals", x.count(12) * 100 + x.count(14) * 10 + x.count(16), 222);
  }

  private static void twoCars() {
    DownAmongFences x = Tale.of(ROADS);
    check.is("45: the other at 3", x.twoCars(3), 4 + 8);
    check.is("45: as soon is not sooner", x.twoCars(0), 0);
    check.is("45: where there is no way for this one", x.twoCars(4), 16 + 32);
    x.road(2, 3, 30);
    check.is("45: the other at 3, not as soon", x.twoCars(3), 8);
    x.road(2, 3, 29);
    check.is("45: sooner at 2", x.twoCars(3), 12);
    check.is("45: the last place", x.twoCars(7), 128);
    check.is("45: no place", x.twoCars(8), -1);
    check.is("45: no place", x.twoCars(-1), -1);
    check.is("45: refusals", x.count(11), 2);
  }
}
