/** Promises 1 to 12, 31, 33 and 46 to 48: the state, letters, STEPS, the ROW, THE IMAGE, counts. */
public final class FlightPromisesTest {
  private static final int MIN = Integer.MIN_VALUE;
  private static final int MAX = Integer.MAX_VALUE;
  private static final Check check = new Check();

  public static void main(String[] args) {
    aNewObject();
    feed();
    landOfAllStatements();
    landFaultsOfKindOne();
    landFaultsOfKindTwo();
    landFaultChangesNothing();
    layerAndWind();
    field();
    cost();
    costOfShort();
    drag();
    set();
    setOfLag();
    rising();
    goByHand();
    goUnderLag();
    goAtTheEdges();
    goRefused();
    back();
    whatLeavesNothingToTakeBack();
    whatKeepsWhatCanBeTakenBack();
    rowAndClear();
    image();
    counts();
    check.end();
  }

  private static void aNewObject() {
    DownAmongFences x = new DownAmongFences();
    int[] due = {0, 0, 100, 0, 20, 30, 4, 2, 0, 0, 0, 0, 0, 0, 0, 0, 0, 0, 0};
    for (int what = 0; what < due.length; what++) {
      check.is("1: count(" + what + ")", x.count(what), due[what]);
    }
    for (int i = 0; i < 8; i++) {
      check.is("1: layer side", x.layer(i, 0), 0);
      check.is("1: layer ahead", x.layer(i, 1), 0);
      for (int j = 0; j < 8; j++) {
        if (i != j) {
          check.is("1: turned", x.turned(i, j), -9);
        }
      }
    }
    check.is("1: field", x.field(0, 0), -1);
  }

  private static void feed() {
    DownAmongFences x = new DownAmongFences();
    check.is("2: feed -1", x.feed(-1), -4);
    check.is("2: feed least", x.feed(MIN), -4);
    check.is("2: feed 256", x.feed(256), -6);
    check.is("2: feed most", x.feed(MAX), -6);
    check.is("2: none came", x.count(9), 0);
    check.is("2: feed 0", x.feed(0), 1);
    check.is("2: feed 255", x.feed(255), 2);
    for (int i = 3; i <= 96; i++) {
      check.is("2: feed " + i, x.feed('h'), i);
    }
    check.is("2: the 97th", x.feed('h'), -6);
    check.is("2: the 97th, below", x.feed(-1), -4);
    check.is("2: letters", x.count(9), 96);
    check.is("2: refusals -4", x.count(14), 3);
    check.is("2: refusals -6", x.count(16), 3);
  }

  private static void landOfAllStatements() {
    DownAmongFences x = new DownAmongFences();
    int answer = Tale.tell(x, "w0+21;w7-93;w1-00;f4912304530;r0199;r7605;b12341;h39;l5;a00;");
    check.is("3: statements", answer, 10);
    check.is("3: letters then", x.count(9), 0);
    check.is("3: side", x.layer(0, 0), 2);
    check.is("3: ahead", x.layer(0, 1), 1);
    check.is("3: side to the left", x.layer(7, 0), -9);
    check.is("3: less nothing", x.layer(1, 0), 0);
    int[] field = {4, 9, 123, 45, 30};
    for (int what = 0; what < 5; what++) {
      check.is("3: field " + what, x.field(0, what), field[what]);
    }
    check.is("3: road", x.road(1, 0, 0), 99);
    check.is("3: road", x.road(6, 7, 0), 5);
    check.is("3: heat behind two steps", x.count(4), 10);
    check.is("3: gas", x.count(5), 34);
    check.is("3: people", x.count(6), 1);
    check.is("3: lag", x.count(7), 5);
    check.is("3: step", x.count(8), 2);
    check.is("3: height", x.count(1), 38);
    check.is("3: again", Tale.tell(x, "r0100;"), 1);
    check.is("3: nothing told, nothing refused", x.count(16), 0);
  }

  private static void landFaultsOfKindOne() {
    misplaced("", 0);
    misplaced(";", 0);
    misplaced("x", 0);
    misplaced("w", 1);
    misplaced("w0", 2);
    misplaced("w0+", 3);
    misplaced("w0+1", 4);
    misplaced("w0+11", 5);
    misplaced("w0*", 2);
    misplaced("wx", 1);
    misplaced("w0+x", 3);
    misplaced("w0+1x", 4);
    misplaced("w0+11x", 5);
    misplaced("w0+11;;", 6);
    misplaced("w0+11;h", 7);
    misplaced("h1;", 2);
    misplaced("h1x", 2);
    misplaced("h011", 3);
    misplaced("h01", 3);
    misplaced("l;", 1);
    misplaced("l12", 2);
    misplaced("a;", 1);
    misplaced("a", 1);
    misplaced("a0123456789;", 10);
    misplaced("a0123456789", 10);
    misplaced("a012345678", 10);
    misplaced("a0x", 2);
    misplaced("f00000000001", 11);
    misplaced("f000000000;", 10);
    misplaced("f0000000000", 11);
    misplaced("r012;", 4);
    misplaced("r01234", 5);
    misplaced("b12345;l", 8);
    misplaced("b1234;", 5);
    misplaced("b123456;", 6);
    misplaced("W0+11;", 0);
    misplaced("h01;q", 4);
    misplaced("h99;l", 5);
    misplaced("a9;l9;w9+00;f", 13);
    misplaced(" h01;", 0);
    misplaced("h01; ", 4);
    misplaced("h01;;", 4);
    DownAmongFences x = new DownAmongFences();
    for (int i = 0; i < 96; i++) {
      x.feed("h01;".charAt(i % 4));
    }
    check.is("3: 96 letters", x.land(), 24);
    for (int i = 0; i < 96; i++) {
      x.feed("ah01;h01;l1;".charAt(i % 12));
    }
    check.is("3: no acts", x.land(), -1001);
    Tale.tell(x, "");
    for (int i = 0; i < 96; i++) {
      x.feed("b10101;".charAt(i % 7));
    }
    check.is("3: the last of 96 lacks", x.land(), -1096);
    for (int letter : new int[] {0, 47, 58, 127, 128, 200, 255}) {
      x.feed('h');
      x.feed(letter);
      check.is("3: letter " + letter, x.land(), -1001);
    }
  }

  private static void misplaced(String land, int place) {
    DownAmongFences x = new DownAmongFences();
    check.is("3: land " + land, Tale.tell(x, land), -1000 - place);
    check.is("3: letters behind a fault", x.count(9), 0);
  }

  private static void landFaultsOfKindTwo() {
    wrong("w8+00;", 0);
    wrong("h01;w9-11;", 4);
    wrong("f6000000001;", 0);
    wrong("f0000000000;", 0);
    wrong("f0000000031;", 0);
    wrong("f9999999999;", 0);
    wrong("r0001;", 0);
    wrong("r0801;", 0);
    wrong("r8001;", 0);
    wrong("b10100;", 0);
    wrong("b10107;", 0);
    wrong("h40;", 0);
    wrong("l6;", 0);
    wrong("a3;", 0);
    wrong("a9;", 0);
    wrong("b10001;a1;", 7);
    wrong("b10011;a11;", 7);
    wrong("h01;l1;a0123;", 7);
    wrong("b10101;b10108;h77;", 7);
    wrong("b61101;", 0);
    wrong("b10611;", 0);
    check.is("3: all most", Tale.tell(new DownAmongFences(), "b60606;h39;l5;r7699;f5999999930;w7-99;"), 6);
    check.is("3: all least", Tale.tell(new DownAmongFences(), "b00001;h00;l0;r0100;f0000000001;w0+00;a0;"), 7);
    check.is("3: kind one is first", Tale.tell(new DownAmongFences(), "h99;h01"), -1007);
    landStepsAndRoom();
  }

  private static void wrong(String land, int place) {
    check.is("3: land " + land, Tale.tell(new DownAmongFences(), land), -2000 - place);
  }

  private static void landStepsAndRoom() {
    DownAmongFences x = new DownAmongFences();
    Tale.tell(x, "f0000000001;f0000000001;f0000000001;f0000000001;f0000000001;f0000000001;f0000000001;");
    check.is("3: seven fields", x.count(0), 7);
    check.is("3: no room for the ninth", Tale.tell(x, "f0000000001;f0000000002;"), -2012);
    check.is("3: none came", x.count(0), 7);
    check.is("3: the eighth", Tale.tell(x, "f0000000003;"), 1);
    check.is("3: no ninth", Tale.tell(x, "f0000000001;"), -2000);
    // STEP 999 lies beyond the 512 calls that are promised; the class goes on the same.
    for (int i = 0; i < 990; i++) {
      x.go(0);
    }
    check.is("3: step", x.count(8), 990);
    check.is("3: step above 999", Tale.tell(x, "a000000000;a0;"), -2011);
    check.is("3: step as it was", x.count(8), 990);
    check.is("3: step 999", Tale.tell(x, "a000000000;"), 1);
    check.is("3: step", x.count(8), 999);
    check.is("3: step above 999", Tale.tell(x, "a0;"), -2000);
    check.is("11: step 999", x.go(0), -6);
    check.is("11: no act ahead of it", x.go(3), -2);
    check.is("13: plans have no such end", x.plan(3, 1, 3), 0);
  }

  private static void landFaultChangesNothing() {
    DownAmongFences x = Tale.of("w0+11;h10;r0110;");
    x.go(0);
    String was = Tale.state(x);
    check.is("3: a fault at the end", Tale.tell(x, "w0+22;f0000000001;r0120;b55552;h20;l0;h40;"), -2038);
    check.is("3: all as it was", Tale.state(x).equals(was) ? 1 : 0, 1);
    check.is("3: what can be taken back", x.count(18), 1);
    for (int what = 11; what <= 16; what++) {
      check.is("3: nothing is counted", x.count(what), 0);
    }
  }

  private static void layerAndWind() {
    DownAmongFences x = new DownAmongFences();
    check.is("5: wind", x.wind(0, 9, 9), 900);
    check.is("5: wind again", x.wind(0, -9, 0), 1809);
    check.is("5: and again", x.wind(0, 0, 0), 0);
    check.is("5: wind 7", x.wind(7, -3, 4), 900);
    check.is("4: side", x.layer(7, 0), -3);
    check.is("4: ahead", x.layer(7, 1), 4);
    check.is("5: wind 8", x.wind(8, -10, -1), -1);
    check.is("5: wind -1", x.wind(-1, 10, 10), -1);
    check.is("5: wind most", x.wind(MAX, 0, 0), -1);
    check.is("5: side below", x.wind(0, -10, 10), -4);
    check.is("5: ahead below", x.wind(0, 10, -1), -4);
    check.is("5: side above", x.wind(0, 10, 0), -6);
    check.is("5: ahead above", x.wind(0, 0, 10), -6);
    check.is("5: side least", x.wind(0, MIN, 0), -4);
    check.is("5: ahead most", x.wind(0, 0, MAX), -6);
    check.is("4: layer 8", x.layer(8, 5), 1000000001);
    check.is("4: layer -1", x.layer(-1, 0), 1000000001);
    check.is("4: layer least", x.layer(MIN, 0), 1000000001);
    check.is("4: what 2", x.layer(0, 2), 1000000002);
    check.is("4: what -1", x.layer(0, -1), 1000000002);
    check.is("4: refusals -1", x.count(11), 6);
    check.is("4: refusals -2", x.count(12), 2);
    check.is("5: refusals -4", x.count(14), 3);
    check.is("5: refusals -6", x.count(16), 3);
    check.is("5: nothing changed", x.layer(0, 0) + x.layer(0, 1), 0);
  }

  private static void field() {
    DownAmongFences x = Tale.of("f1212345610;f5900199930;");
    int[][] due = {{1, 2, 123, 456, 10}, {5, 9, 1, 999, 30}};
    for (int i = 0; i < 2; i++) {
      for (int what = 0; what < 5; what++) {
        check.is("6: field " + i + " " + what, x.field(i, what), due[i][what]);
      }
    }
    check.is("6: field 2", x.field(2, 9), -1);
    check.is("6: field -1", x.field(-1, 0), -1);
    check.is("6: field most", x.field(MAX, 0), -1);
    check.is("6: what 5", x.field(1, 5), -2);
    check.is("6: what -1", x.field(0, -1), -2);
    check.is("6: refusals", x.count(11) * 10 + x.count(12), 32);
  }

  private static void cost() {
    DownAmongFences x = Tale.of("f0700000001;f1700000001;f2700000001;f3700000001;f4700000030;f5700000001;f5600000001;");
    int[][] due = {
        {0, 0}, {0, 3}, {0, 4}, {0, 20},
        {1, 0}, {1, 3}, {1, 4}, {1, 20},
        {2, 0}, {2, 3}, {2, 4}, {3, 0}, {3, 3}, {3, 4},
        {4, 0}, {4, 20}, {5, 0}, {5, 3}, {5, 4}, {6, 0}, {6, 2}};
    int[] costs = {0, 3, 8, 40, 12, 15, 20, 52, 21, 24, 29, 7, 10, 15, 21, 61, 6, 7, 10, 5, 6};
    for (int i = 0; i < due.length; i++) {
      check.is("7: cost(" + due[i][0] + ", " + due[i][1] + ")", x.cost(due[i][0], due[i][1]), costs[i]);
    }
    check.is("7: field 7", x.cost(7, -1), -1);
    check.is("7: field -1", x.cost(-1, 21), -1);
    check.is("7: below", x.cost(0, -1), -4);
    check.is("7: least", x.cost(0, MIN), -4);
    check.is("7: above", x.cost(0, 21), -6);
    check.is("7: most", x.cost(0, MAX), -6);
    check.is("7: refusals", x.count(11) * 100 + x.count(14) * 10 + x.count(16), 222);
  }

  private static void costOfShort() {
    DownAmongFences x = Tale.of("f4100000001;f4100000002;w0+00;b20301;");
    check.is("8: drag 3 p", x.drag(3), 10);
    check.is("7: drag just 10 a size", x.cost(0, 3), 6);
    check.is("7: drag above it", x.cost(0, 4), 31);
    check.is("7: a size more", x.cost(1, 4), 11);
    x.wind(0, -1, 0);
    check.is("7: wind to the left drags", x.cost(0, 3), 26);
    x.set(3, 2);
    check.is("8: drag 11", x.drag(3), 11);
    check.is("7: just above it", x.cost(0, 3), 26);
    x.set(3, 3);
    check.is("7: people hold", x.cost(0, 3), 6);
  }

  private static void drag() {
    DownAmongFences x = new DownAmongFences();
    check.is("8: at least nothing", x.drag(0), 0);
    check.is("8: 4 p", x.drag(2), 0);
    check.is("8: 4 p less people", x.drag(3), 4);
    check.is("8: most", x.drag(20), 72);
    x.wind(0, -5, 2);
    check.is("8: wind", x.drag(0), 13);
    x.wind(0, 5, 0);
    check.is("8: wind", x.drag(0), 7);
    x.wind(1, 9, 9);
    check.is("8: layer 0 alone", x.drag(0), 7);
    x.set(0, 9);
    check.is("8: at any height", x.drag(0), 7);
    x.set(3, 1);
    check.is("8: people", x.drag(1), 17);
    check.is("8: below", x.drag(-1), -4);
    check.is("8: above", x.drag(21), -6);
    check.is("8: least", x.drag(MIN), -4);
    check.is("8: most of all", x.drag(MAX), -6);
  }

  private static void set() {
    DownAmongFences x = new DownAmongFences();
    int[] was = {0, 20, 30, 4, 2};
    int[] least = {0, 0, 0, 1, 0};
    int[] most = {39, 60, 60, 6, 5};
    int[] counts = {1, 4, 5, 6, 7};
    for (int what = 0; what < 5; what++) {
      check.is("9: below", x.set(what, least[what] - 1), -4);
      check.is("9: above", x.set(what, most[what] + 1), -6);
      check.is("9: least of all", x.set(what, MIN), -4);
      check.is("9: most of all", x.set(what, MAX), -6);
      check.is("9: as it was", x.count(counts[what]), was[what]);
      check.is("9: most", x.set(what, most[what]), was[what]);
      check.is("9: it is", x.count(counts[what]), most[what]);
      check.is("9: least", x.set(what, least[what]), most[what]);
      check.is("9: it is", x.count(counts[what]), least[what]);
    }
    check.is("9: what 5", x.set(5, -1), -2);
    check.is("9: what -1", x.set(-1, 99), -2);
    check.is("9: refusals", x.count(12) * 10000 + x.count(14) * 100 + x.count(16), 21010);
  }

  private static void setOfLag() {
    DownAmongFences x = Tale.of("b20301;l2;h10;");
    x.go(1);
    x.set(4, 2);
    x.go(0);
    check.is("9: work stays with the same lag", x.go(0) * 100 + x.count(4), 1321);
    x = Tale.of("b20301;l2;h10;");
    x.go(1);
    x.set(4, 3);
    x.set(4, 2);
    x.go(0);
    check.is("9: work is lost with another one", x.go(0) * 100 + x.count(4), 1217);
    x = Tale.of("b20301;l2;h10;a1;");
    Tale.tell(x, "l2;");
    x.go(0);
    check.is("3: work is lost with a told lag", x.go(0) * 100 + x.count(4), 1217);
    x = Tale.of("b20301;l2;h10;a1;");
    Tale.tell(x, "b20305;h10;");
    x.go(0);
    check.is("3: work stays else", x.go(0) * 100 + x.count(4), 1022);
  }

  private static void rising() {
    DownAmongFences x = new DownAmongFences();
    int[] heats = {0, 16, 17, 19, 20, 23, 24, 27, 28, 60};
    int[] due = {-5, -1, 0, 0, 0, 0, 1, 1, 2, 10};
    for (int i = 0; i < heats.length; i++) {
      x.set(1, heats[i]);
      check.is("10: rising at " + heats[i], x.rising(), due[i]);
    }
    x.set(3, 6);
    x.set(1, 0);
    check.is("10: six people", x.rising(), -6);
    x.set(3, 1);
    x.set(1, 18);
    check.is("10: one", x.rising(), 1);
  }

  private static void goByHand() {
    DownAmongFences x = Tale.of("w0+21;w1-13;b17304;l0;h05;");
    int[] heights = {4, 3, 2, 1, 0, 0};
    int[] xs = {102, 104, 106, 108, 108, 108};
    int[] ys = {1, 2, 3, 4, 4, 4};
    for (int i = 0; i < heights.length; i++) {
      check.is("11: height behind " + (i + 1), x.go(0), heights[i]);
      check.is("11: x", x.count(2), xs[i]);
      check.is("11: y", x.count(3), ys[i]);
      check.is("11: heat", x.count(4), 16 - i);
      check.is("11: step", x.count(8), i + 1);
    }
    x = Tale.of("w0+21;w1-13;b17304;l0;h05;");
    check.is("11: fire at once", x.go(1), 5);
    check.is("11: heat", x.count(4), 20);
    check.is("11: gas", x.count(5), 29);
    check.is("11: the wind of the layer then", x.count(2) * 10 + x.count(3), 993);
    check.is("11: pull at once", x.go(2), 4);
    check.is("11: heat", x.count(4), 14);
    check.is("11: gas as it was", x.count(5), 29);
    check.is("11: the wind of the layer then", x.count(2) * 10 + x.count(3), 1014);
  }

  private static void goUnderLag() {
    for (int lag = 0; lag <= 5; lag++) {
      DownAmongFences x = Tale.of("b40306;l" + lag + ";h10;");
      x.go(1);
      for (int i = 0; i < lag; i++) {
        check.is("11: not yet under lag " + lag, x.count(4), 39 - i);
        x.go(i == 0 ? 2 : 0);
      }
      check.is("11: fire works under lag " + lag, x.count(4), 39 - lag + 4);
      x.go(0);
      check.is("11: pull works behind it", x.count(4), 38 - lag + 4 - (lag > 0 ? 5 : 0));
    }
  }

  private static void goAtTheEdges() {
    DownAmongFences x = Tale.of("b60306;l0;h38;w7+99;");
    check.is("11: at most 39", x.go(1), 39);
    check.is("11: heat at most 60", x.count(4), 60);
    check.is("11: x", x.count(2), 109);
    x = Tale.of("b03001;l0;h39;w0-99;w7-99;w6-99;w5-99;w4-99;w3-99;w2-99;w1-99;");
    check.is("11: falls", x.go(2), 36);
    check.is("11: heat at least 0", x.count(4), 0);
    for (int i = 0; i < 11; i++) {
      x.go(0);
    }
    check.is("11: falls to 3", x.count(1), 3);
    check.is("11: x at least 0", x.count(2), 0);
    check.is("11: y", x.count(3), 108);
    check.is("11: down", x.go(0), 0);
    check.is("11: not blown when down", x.count(3), 108);
    x = Tale.of("b02001;l0;");
    check.is("11: both held together: 2 less 1 less 5", x.go(2) * 100 + x.count(4), 0);
    x = Tale.of("b59601;l0;");
    x.go(1);
    check.is("11: 59 less 1 and 4", x.count(4), 60);
    x = Tale.of("w7+99;b60606;l0;h39;");
    for (int i = 0; i < 120; i++) {
      x.set(1, 60);
      x.go(0);
    }
    check.is("11: x and y at most 999", x.count(2) * 1000 + x.count(3), 999999);
    x = Tale.of("b40304;l0;");
    check.is("11: up from being down", x.go(0), 4);
  }

  private static void goRefused() {
    DownAmongFences x = Tale.of("b20004;");
    check.is("11: act 3", x.go(3), -2);
    check.is("11: act -1", x.go(-1), -2);
    check.is("11: act most", x.go(MAX), -2);
    check.is("11: fire without gas", x.go(1), -3);
    check.is("11: no step", x.count(8), 0);
    check.is("11: refusals", x.count(12) * 10 + x.count(13), 31);
    x.set(2, 1);
    x.go(1);
    check.is("11: with the last gas", x.count(5), 0);
    check.is("11: and no more", x.go(1), -3);
  }

  private static void back() {
    DownAmongFences x = Tale.of("w0+21;w1-13;b22304;l2;h05;");
    check.is("12: none", x.back(), -3);
    String[] states = new String[12];
    for (int i = 0; i < 11; i++) {
      states[i] = ahead(x);
      x.go(i % 3);
      check.is("48: what can be taken back", x.count(18), Math.min(8, i + 1));
    }
    for (int i = 10; i >= 3; i--) {
      check.is("12: back to step", x.back(), i);
      check.holds("12: all is as ahead of it", ahead(x).equals(states[i]));
      check.is("48: what can be taken back", x.count(18), i - 3);
    }
    check.is("12: older ones no more", x.back(), -3);
    check.is("12: refusals", x.count(13), 2);
    x.go(1);
    x.go(2);
    x.back();
    x.go(0);
    check.is("12: and on", x.count(18), 2);
    check.is("12: and back", x.back() * 10 + x.back(), 43);
    check.holds("12: as it was", ahead(x).equals(states[3]));
  }

  /** What can be seen of the flight, what is under way too. */
  private static String ahead(DownAmongFences x) {
    StringBuilder all = new StringBuilder();
    for (int what = 1; what <= 8; what++) {
      all.append(x.count(what)).append(' ');
    }
    all.append(x.plan(0, 0, 0)).append(' ').append(x.plan(4, 2, 1)).append(' ').append(x.plan(9, 1, 3));
    return all.toString();
  }

  private static void whatLeavesNothingToTakeBack() {
    for (int i = 0; i < 10; i++) {
      DownAmongFences x = Tale.of("h20;r0105;f0000000010;");
      x.image();
      x.go(0);
      x.go(2);
      check.is("12: two", x.count(18), 2);
      switch (i) {
        case 0: x.wind(0, 0, 0); break;
        case 1: x.set(0, x.count(1)); break;
        case 2: x.set(4, 2); break;
        case 3: x.road(0, 1, 5); break;
        case 4: x.road(0, 1, 0); break;
        case 5: x.car(0); break;
        case 6: x.restore(); break;
        case 7: Tale.tell(x, "w0+00;"); break;
        case 8: Tale.tell(x, "a00;"); break;
        default: Tale.tell(x, "r0105;"); break;
      }
      check.is("12: none left by " + i, x.count(18), 0);
      check.is("12: none left by " + i, x.back(), -3);
    }
  }

  private static void whatKeepsWhatCanBeTakenBack() {
    DownAmongFences x = Tale.of("h20;r0105;f0000000010;");
    check.is("47: none yet", x.restore(), -3);
    x.go(0);
    x.go(2);
    x.restore();
    x.wind(8, 0, 0);
    x.wind(0, -10, 0);
    x.set(0, 40);
    x.road(0, 0, 1);
    x.car(8);
    x.go(3);
    Tale.tell(x, "h40;");
    x.feed('h');
    x.land();
    x.image();
    x.row(3);
    x.row(3);
    x.judge();
    x.clear();
    x.plan(3, 3, 0);
    x.crew(0);
    x.keep(0);
    x.windFor(0, 1, 1, 0);
    x.game(0);
    x.lots(3, 3, 0);
    x.rising();
    check.is("12: two as ahead", x.count(18), 2);
    x.feed('h');
    x.row(7);
    check.is("12: back", x.back(), 1);
    check.is("12: back", x.back(), 0);
    check.is("12: letters stay", x.count(9), 1);
    check.is("12: the row stays", x.count(10), 1);
    check.is("12: refusals stay", x.count(12), 1);
  }

  private static void rowAndClear() {
    DownAmongFences x = new DownAmongFences();
    check.is("33: none", x.clear(), 0);
    check.is("31: below", x.row(-1), -4);
    check.is("31: above", x.row(100), -6);
    check.is("31: least", x.row(MIN), -4);
    check.is("31: most", x.row(MAX), -6);
    for (int i = 1; i <= 12; i++) {
      check.is("31: how many", x.row(i == 1 ? 0 : 99), i);
      check.is("48: how many", x.count(10), i);
    }
    check.is("31: no room", x.row(5), -6);
    check.is("31: below comes first", x.row(-5), -4);
    check.is("33: how many it had", x.clear(), 12);
    check.is("33: none then", x.count(10), 0);
    check.is("31: the first again", x.row(50), 1);
    check.is("31: refusals", x.count(14) * 10 + x.count(16), 33);
  }

  private static void image() {
    DownAmongFences x = Tale.of("w0+21;w7-13;f1210020010;r0105;b25404;l3;h12;a11;");
    x.car(1);
    x.go(1);
    x.go(2);
    String was = ahead(x) + Tale.state(x).substring(0, 20);
    String land = x.layer(0, 0) + " " + x.layer(7, 1) + " " + x.field(0, 3) + " " + x.drive(0) + " " + x.count(17);
    check.is("46: image", x.image(), 4);
    check.is("46: what can be taken back stays", x.count(18), 2);
    Tale.tell(x, "w0-99;w7+99;f0000000001;r0199;r0203;b60606;l0;h39;a000;");
    x.car(5);
    x.go(0);
    x.feed('h');
    x.row(9);
    x.go(9);
    check.is("47: restore", x.restore(), 4);
    check.holds("47: the flight", (ahead(x) + Tale.state(x).substring(0, 20)).equals(was));
    check.holds("47: the land", (x.layer(0, 0) + " " + x.layer(7, 1) + " " + x.field(0, 3) + " " + x.drive(0) + " "
        + x.count(17)).equals(land));
    check.is("47: fields", x.count(0), 1);
    check.is("47: the other road", x.drive(2), -9);
    check.is("47: letters are not in it", x.count(9), 1);
    check.is("47: the row is not in it", x.count(10), 1);
    check.is("47: refusals are not in it", x.count(12), 1);
    check.is("47: nothing to take back", x.back(), -3);
    x.go(0);
    check.is("47: again", x.restore(), 4);
    x.go(0);
    x.go(0);
    check.is("46: another image", x.image(), 6);
    x.go(0);
    check.is("47: the later one", x.restore(), 6);
    check.is("47: no image", new DownAmongFences().restore(), -3);
  }

  private static void counts() {
    DownAmongFences x = Tale.of("f0000000001;b33445;h07;l1;");
    x.car(6);
    x.wind(-1, 0, 0);
    x.go(7);
    x.go(7);
    x.back();
    x.back();
    x.back();
    for (int i = 0; i < 4; i++) {
      x.feed(-1);
    }
    for (int i = 0; i < 5; i++) {
      x.feed(256);
    }
    int[] due = {1, 7, 100, 0, 33, 44, 5, 1, 0, 0, 0, 1, 2, 3, 4, 0, 5, 6, 0};
    for (int what = 0; what < due.length; what++) {
      check.is("48: count(" + what + ")", x.count(what), due[what]);
    }
    check.is("48: count(19)", x.count(19), -9);
    check.is("48: count(-1)", x.count(-1), -9);
    check.is("48: count least", x.count(MIN), -9);
    check.is("48: count most", x.count(MAX), -9);
    check.is("48: which is no refusal", x.count(12), 2);
  }
}
