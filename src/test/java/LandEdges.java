/** Part I of the document: the letters of a LAND, where they can't go on, and what is not as it must be. */
final class LandEdges {
  private final Sentences doc;
  private final Check check;
  private final Twins twins;

  LandEdges(Sentences doc, Check check) {
    this.doc = doc;
    this.check = check;
    this.twins = new Twins(check);
  }

  void all() {
    doc.in("I");
    letters();
    wind();
    field();
    road();
    balloon();
    height();
    lag();
    acts();
    statements();
    kindOne();
    kindTwo();
    allOrNothing();
  }

  private static DownAmongFences fresh() {
    return new DownAmongFences();
  }

  private void stands(String land, int statements) {
    check.is("land " + land, Tale.tell(fresh(), land), statements);
  }

  private void misplaced(String land, int place) {
    check.is("land " + land, Tale.tell(fresh(), land), -1000 - place);
  }

  private void wrong(String land, int place) {
    check.is("land " + land, Tale.tell(fresh(), land), -2000 - place);
  }

  /** Behind such a head come least .. most digits and then ";": too few, too many, and others in their stead. */
  private void digits(String head, int least, int most) {
    StringBuilder land = new StringBuilder(head);
    for (int n = 0; n <= most; n++) {
      int place = land.length();
      misplaced(land.toString(), place);
      misplaced(land + "/", place);
      misplaced(land + ":", place);
      misplaced(land + "+", place);
      misplaced(land + "w", place);
      misplaced(land + " ;", place);
      if (n < least) {
        misplaced(land + ";", place);
      }
      if (n < most) {
        land.append(1 - n % 2);
      }
    }
    misplaced(land + "0;", land.length());
    misplaced(land + "9", land.length());
    misplaced(land + ";;", land.length() + 1);
    stands(land + ";", 1);
  }

  private void letters() {
    doc.says("A LAND is told in letters, one by one (96 at most)", () -> {
      DownAmongFences x = fresh();
      for (int i = 0; i < 96; i++) {
        check.is("letter", x.feed("h01;".charAt(i % 4)), i + 1);
      }
      check.is("too many", x.feed('h'), -6);
      check.is("there are", x.count(9), 96);
      check.is("all 96 are a land", x.land(), 24);
      check.is("none then", x.count(9), 0);
      check.is("the first again", x.feed('h'), 1);
    });
    doc.says("STATEMENTS, each with \";\" behind", () -> {
      stands("h01;", 1);
      misplaced("h01", 3);
      stands("h01;l1;", 2);
      misplaced("h01l1;", 3);
      misplaced("h01;l1", 6);
      misplaced("h01:", 3);
      misplaced("h01,l1;", 3);
      misplaced(";h01;", 0);
      misplaced("h01;;", 4);
    });
  }

  private void wind() {
    doc.says("\"w\" a LAYER (a digit), \"+\" or \"-\", SIDE, AHEAD (a digit each)", () -> {
      digits("w0+", 2, 2);
      digits("w7-", 2, 2);
      misplaced("w", 1);
      misplaced("w;", 1);
      misplaced("w+", 1);
      misplaced("w/+00;", 1);
      misplaced("w:+00;", 1);
      misplaced("w0", 2);
      misplaced("w0;", 2);
      misplaced("w000;", 2);
      misplaced("w0,00;", 2);
      misplaced("w0*00;", 2);
      misplaced("w0.00;", 2);
      misplaced("w00+00;", 2);
      misplaced("w0+-1;", 3);
      DownAmongFences x = Tale.of("w0-99;w7+99;w1-00;w2+00;");
      check.is("the least side", x.layer(0, 0), -9);
      check.is("the most ahead", x.layer(0, 1), 9);
      check.is("the most side", x.layer(7, 0), 9);
      check.is("less nothing", x.layer(1, 0) + x.layer(1, 1), 0);
      wrong("w8+00;", 0);
      wrong("w9-99;", 0);
    });
  }

  private void field() {
    doc.says("\"f\" KIND, FIGURE (a digit each), X, Y (3 digits each), SIZE (2 digits): one more", () -> {
      digits("f", 10, 10);
      stands("f0000000001;", 1);
      stands("f5999999930;", 1);
      wrong("f6000000001;", 0);
      wrong("f9000000001;", 0);
      wrong("f0000000000;", 0);
      wrong("f0000000031;", 0);
      wrong("f0000000099;", 0);
      DownAmongFences x = fresh();
      check.is("two alike", Tale.tell(x, "f1234567809;f1234567809;"), 2);
      check.is("each is one more", x.count(0), 2);
      int[] due = {1, 2, 345, 678, 9};
      for (int what = 0; what < 5; what++) {
        check.is("what " + what, x.field(1, what), due[what]);
      }
    });
  }

  private void road() {
    doc.says("\"r\" two PLACES (a digit each), MINUTES (2 digits, 00 none)", () -> {
      digits("r", 4, 4);
      stands("r0101;", 1);
      stands("r7699;", 1);
      stands("r0100;", 1);
      wrong("r8001;", 0);
      wrong("r0801;", 0);
      wrong("r9001;", 0);
      wrong("r0901;", 0);
      wrong("r0001;", 0);
      wrong("r7700;", 0);
      DownAmongFences x = Tale.of("r0701;");
      check.is("the least", x.drive(7), 1);
      Tale.tell(x, "r7099;");
      check.is("the most", x.drive(7), 99);
      Tale.tell(x, "r0700;");
      check.is("none", x.drive(7), -9);
      check.is("none", x.road(0, 7, 0), 0);
    });
  }

  private void balloon() {
    doc.says("\"b\" HEAT, GAS (2 digits each), PEOPLE (a digit)", () -> {
      digits("b", 5, 5);
      misplaced("b", 1);
      misplaced("b;", 1);
      misplaced("b1", 2);
      misplaced("b010;", 4);
      misplaced("b01011x", 6);
      DownAmongFences x = Tale.of("b00001;");
      check.is("the least", x.count(4) * 100 + x.count(5) * 10 + x.count(6), 1);
      check.is("the most", Tale.tell(x, "b60606;"), 1);
      check.is("heat", x.count(4), 60);
      check.is("gas", x.count(5), 60);
      check.is("people", x.count(6), 6);
      wrong("b61001;", 0);
      wrong("b99001;", 0);
      wrong("b00611;", 0);
      wrong("b00991;", 0);
      wrong("b00000;", 0);
      wrong("b00007;", 0);
      wrong("b00009;", 0);
    });
  }

  private void height() {
    doc.says("\"h\" HEIGHT (2 digits)", () -> {
      digits("h", 2, 2);
      DownAmongFences x = Tale.of("h39;");
      check.is("the most", x.count(1), 39);
      Tale.tell(x, "h00;");
      check.is("the least", x.count(1), 0);
      wrong("h40;", 0);
      wrong("h99;", 0);
    });
  }

  private void lag() {
    doc.says("\"l\" LAG (a digit)", () -> {
      digits("l", 1, 1);
      DownAmongFences x = Tale.of("l5;");
      check.is("the most", x.count(7), 5);
      Tale.tell(x, "l0;");
      check.is("the least", x.count(7), 0);
      wrong("l6;", 0);
      wrong("l9;", 0);
    });
  }

  private void acts() {
    doc.says("\"a\" ACTS (digits 0 .. 2, 1 to 9 of them): STEPS", () -> {
      digits("a", 1, 9);
      stands("a0;", 1);
      stands("a1;", 1);
      stands("a2;", 1);
      wrong("a3;", 0);
      wrong("a9;", 0);
      DownAmongFences x = Tale.of("a0;");
      check.is("one step", x.count(8), 1);
      check.is("nine", Tale.tell(x, "a012012012;"), 1);
      check.is("ten steps", x.count(8), 10);
      check.is("three of fire", x.count(5), 27);
      check.is("not ten at once", Tale.tell(x, "a0120120120;"), -1010);
      check.is("none came", x.count(8), 10);
      DownAmongFences y = fresh();
      for (char act : "0012012012".toCharArray()) {
        y.go(act - '0');
      }
      y.set(0, y.count(1));
      check.holds("like go()", Tale.state(x).equals(Tale.state(y)));
    });
  }

  private void statements() {
    doc.says("At least one STATEMENT", () -> {
      misplaced("", 0);
      stands("h01;", 1);
      DownAmongFences x = Twins.busy();
      x.land();
      check.is("none", x.land(), -1000);
    });
  }

  private void kindOne() {
    doc.says("FAULT: kind 1 the place of the first letter with which no LAND can go on (the end, if something lacks): "
        + "-1000 less the place", () -> {
      misplaced("x", 0);
      misplaced("W0+00;", 0);
      misplaced("\0", 0);
      misplaced("\u00ff", 0);
      misplaced("h01;x01;", 4);
      misplaced("h01;h0x;hx1;", 6);
      misplaced("h01; ", 4);
      misplaced("h01;h", 5);
      misplaced("h01;h0", 6);
      misplaced("h01;h01", 7);
      DownAmongFences x = fresh();
      for (int i = 0; i < 96; i++) {
        x.feed("h01;l1;".charAt(i % 7));
      }
      check.is("something lacks behind the last of 96", x.land(), -1096);
      for (int i = 0; i < 96; i++) {
        x.feed(i == 95 ? ':' : "h01;".charAt(i % 4));
      }
      check.is("the last of 96", x.land(), -1095);
    });
    doc.says("else kind 2 the place of the first letter of the first STATEMENT that is not as it must be", () -> {
      wrong("h40;h41;", 0);
      wrong("h39;h40;l6;", 4);
      wrong("l0;h39;a3;w8+00;", 7);
      misplaced("h40;x", 4);
      misplaced("w9+00;h01;h", 11);
      misplaced("h40", 3);
      DownAmongFences x = fresh();
      for (int i = 0; i < 96; i++) {
        x.feed(i == 94 ? '6' : "l0;".charAt(i % 3));
      }
      check.is("the last of 32 statements", x.land(), -2093);
    });
  }

  private void kindTwo() {
    doc.says("(a number out of range, no such LAYER, PLACE, one twice, an ACT that is none or can not be, STEP above 999, "
        + "no room): -2000 less the place", () -> {
      wrong("h01;b61001;", 4);
      wrong("h01;w8+00;", 4);
      wrong("h01;r0801;", 4);
      wrong("h01;r0001;", 4);
      wrong("h01;a3;", 4);
      wrong("h01;a00000003;", 4);
      wrong("b10001;a1;", 7);
      stands("b10011;a1;", 2);
      wrong("b10011;a11;", 7);
      wrong("b10011;a1;a1;", 10);
      stands("b10001;b10011;a1;", 3);
      wrong("a1;b10001;a1;", 10);
      stands("b10001;a02;", 2);
      DownAmongFences x = Tale.of("f0000000001;f0000000001;f0000000001;f0000000001;f0000000001;f0000000001;f0000000001;");
      check.is("room for one", Tale.tell(x, "f0000000001;f0000000001;"), -2012);
      check.is("the eighth", Tale.tell(x, "f0000000001;"), 1);
      check.is("no room", Tale.tell(x, "h01;f0000000001;"), -2004);
      // Only beyond the 512 calls that are promised; the class goes on the same.
      x = StateEdges.farAlong(990);
      check.is("step 1000", Tale.tell(x, "a000000000;a0;"), -2011);
      check.is("step 999", Tale.tell(x, "a000000000;"), 1);
      check.is("step 1000 at once", Tale.tell(x, "h01;a0;"), -2004);
    });
  }

  private void allOrNothing() {
    doc.says("Without FAULT all of it comes, with one nothing", () -> {
      DownAmongFences x = fresh();
      check.is("all", Tale.tell(x, "w4-32;f1234567809;r2345;b30106;l1;h20;a1;"), 7);
      check.is("wind", x.layer(4, 0) * 10 + x.layer(4, 1), -28);
      check.is("field", x.count(0), 1);
      check.is("road", x.road(3, 2, 0), 45);
      check.is("heat, gas, people", x.count(4) * 1000 + x.count(5) * 10 + x.count(6), 29096);
      check.is("lag, height, step", x.count(7) * 1000 + x.count(1) * 10 + x.count(8), 1211);
      String[] faults = {"w4-32;x", "f1234567809;h40;", "r2345;l6;", "b30106;a3;", "b60606;h", "h20;h40;", "l0;w9+00;",
          "a1;f9999999999;", "a0000;a3;", "w0+99;w1+99;f0000000001;r0199;b60606;l0;h39;a01;b00000;"};
      for (String land : faults) {
        nothingBy(land);
      }
    });
  }

  /** A LAND with a FAULT: one that was told nothing is the same, the letters aside. */
  private void nothingBy(String land) {
    DownAmongFences x = Twins.busy();
    DownAmongFences twin = Twins.busy();
    x.feed('1');
    x.feed(';');
    twin.feed('1');
    twin.feed(';');
    x.land();
    twin.land();
    x.go(2);
    twin.go(2);
    check.holds("a fault of " + land, Tale.tell(x, land) < 0);
    for (int what = 11; what <= 16; what++) {
      check.is("a fault is no refusal: count(" + what + ")", x.count(what), 0);
    }
    x.feed('h');
    twin.feed('h');
    twins.alike("land " + land, x, twin);
  }
}
