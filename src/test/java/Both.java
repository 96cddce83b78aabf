/** One balloon of the class and one of the model, called alike. */
final class Both {
  static final int CALLS = 46;

  private final DownAmongFences x = new DownAmongFences();
  private final Model m = new Model();
  private final Check check;
  private final String run;
  private String told = "";
  private int calls;

  Both(Check check, String run) {
    this.check = check;
    this.run = run;
  }

  /** Whether a test may go on: only an object's first 512 calls are promised. */
  boolean hasRoomFor(int more) {
    return calls + more <= 512;
  }

  private void same(String call, long got, long want) {
    calls++;
    told = told.length() > 1500 ? ".. " + told.substring(told.length() - 1400) : told;
    told += call + " ";
    check.is(run + ": " + (got == want ? call : told), got, want);
  }

  void tell(String letters) {
    for (char c : letters.toCharArray()) {
      same("feed(" + (int) c + ")", x.feed(c), m.feed(c));
    }
    same("land()", x.land(), m.land());
  }

  /** All that can be seen without a change. */
  void sameCounts() {
    for (int what = -1; what <= 19; what++) {
      same("count(" + what + ")", x.count(what), m.count(what));
    }
    for (int i = 0; i < 8; i++) {
      same("layer(" + i + ", 0)", x.layer(i, 0), m.layer(i, 0));
      same("layer(" + i + ", 1)", x.layer(i, 1), m.layer(i, 1));
      same("field(" + i + ", " + i % 5 + ")", x.field(i, i % 5), m.field(i, i % 5));
      same("drive(" + i + ")", x.drive(i), m.drive(i));
    }
  }

  /** The call of a number, each number in its own reach, or sometimes just outside of it. */
  void call(int number, Dice d) {
    switch (number) {
      case 0: { int a = d.near(0, 255); same("feed(" + a + ")", x.feed(a), m.feed(a)); break; }
      case 1: same("land()", x.land(), m.land()); break;
      case 2: { int a = d.near(0, 7), b = d.near(0, 1);
        same("layer(" + a + ", " + b + ")", x.layer(a, b), m.layer(a, b)); break; }
      case 3: { int a = d.near(0, 7), b = d.near(-9, 9), c = d.near(0, 9);
        same("wind(" + a + ", " + b + ", " + c + ")", x.wind(a, b, c), m.wind(a, b, c)); break; }
      case 4: { int a = d.near(0, 7), b = d.near(0, 4);
        same("field(" + a + ", " + b + ")", x.field(a, b), m.field(a, b)); break; }
      case 5: { int a = d.near(0, 7), b = d.near(0, 20);
        same("cost(" + a + ", " + b + ")", x.cost(a, b), m.cost(a, b)); break; }
      case 6: { int a = d.near(0, 20); same("drag(" + a + ")", x.drag(a), m.drag(a)); break; }
      case 7: { int a = d.near(0, 4), b = d.near(0, new int[] {39, 60, 60, 6, 5}[a < 0 || a > 4 ? 0 : a]);
        same("set(" + a + ", " + b + ")", x.set(a, b), m.set(a, b)); break; }
      case 8: same("rising()", x.rising(), m.rising()); break;
      case 9: { int a = d.near(0, 2); same("go(" + a + ")", x.go(a), m.go(a)); break; }
      case 10: same("back()", x.back(), m.back()); break;
      case 11: { int a = d.near(0, 30), b = d.near(0, 5), c = d.near(0, 5);
        same("plan(" + a + ", " + b + ", " + c + ")", x.plan(a, b, c), m.plan(a, b, c)); break; }
      case 12: { int a = d.near(0, 7), b = d.near(0, 2);
        same("had(" + a + ", " + b + ")", x.had(a, b), m.had(a, b)); break; }
      case 13: { int a = d.near(0, 1); same("best(" + a + ")", x.best(a), m.best(a)); break; }
      case 14: same("left()", x.left(), m.left()); break;
      case 15: { int a = d.near(0, 7); same("keep(" + a + ")", x.keep(a), m.keep(a)); break; }
      case 16: { int a = d.near(0, 20); same("goingOn(" + a + ")", x.goingOn(a), m.goingOn(a)); break; }
      case 17: { int a = d.near(0, 2); same("blown(" + a + ")", x.blown(a), m.blown(a)); break; }
      case 18: { boolean small = d.below(2) == 0;
        int a = d.near(small ? -20 : -99, small ? 20 : 99), b = d.near(0, small ? 20 : 99), c = d.near(0, 1);
        same("two(" + a + ", " + b + ", " + c + ")", x.two(a, b, c), m.two(a, b, c)); break; }
      case 19: { int a = d.near(0, 2); same("swing(" + a + ")", x.swing(a), m.swing(a)); break; }
      case 20: same("calm()", x.calm(), m.calm()); break;
      case 21: same("out()", x.out(), m.out()); break;
      case 22: { int a = d.near(0, 7), b = d.near(0, 7), c = d.near(0, d.below(3) == 0 ? 99 : 12);
        same("road(" + a + ", " + b + ", " + c + ")", x.road(a, b, c), m.road(a, b, c)); break; }
      case 23: { int a = d.near(0, 7); same("car(" + a + ")", x.car(a), m.car(a)); break; }
      case 24: { int a = d.near(0, 7); same("drive(" + a + ")", x.drive(a), m.drive(a)); break; }
      case 25: same("waitAt()", x.waitAt(), m.waitAt()); break;
      case 26: { int a = d.near(0, 1); same("meanWait(" + a + ")", x.meanWait(a), m.meanWait(a)); break; }
      case 27: { int a = d.near(0, 7), b = d.near(0, 7);
        same("turned(" + a + ", " + b + ")", x.turned(a, b), m.turned(a, b)); break; }
      case 28: { int a = d.near(0, 1); same("track(" + a + ")", x.track(a), m.track(a)); break; }
      case 29: { int a = d.near(0, 99); same("row(" + a + ")", x.row(a), m.row(a)); break; }
      case 30: same("judge()", x.judge(), m.judge()); break;
      case 31: same("clear()", x.clear(), m.clear()); break;
      case 32: { int a = d.near(1, 20), b = d.whole(), c = d.near(0, 1);
        same("lots(" + a + ", " + b + ", " + c + ")", x.lots(a, b, c), m.lots(a, b, c)); break; }
      case 33: { int a = d.near(0, 1); same("crew(" + a + ")", x.crew(a), m.crew(a)); break; }
      case 34: same("whichLag()", x.whichLag(), m.whichLag()); break;
      case 35: { int a = d.near(0, 7), b = d.near(0, 30), c = d.near(0, 5), e = d.near(0, 1);
        same("windFor(" + a + ", " + b + ", " + c + ", " + e + ")", x.windFor(a, b, c, e), m.windFor(a, b, c, e));
        break; }
      case 36: { int a = d.near(0, 7), b = d.near(0, 5), c = d.near(0, 1);
        same("span(" + a + ", " + b + ", " + c + ")", x.span(a, b, c), m.span(a, b, c)); break; }
      case 37: { int a = d.near(0, 4); same("flown(" + a + ")", x.flown(a), m.flown(a)); break; }
      case 38: { int a = d.near(0, 1); same("ceiling(" + a + ")", x.ceiling(a), m.ceiling(a)); break; }
      case 39: { int a = d.near(0, 2); same("game(" + a + ")", x.game(a), m.game(a)); break; }
      case 40: { int a = d.near(0, 30), b = d.near(0, 5), c = d.near(1, 6);
        same("another(" + a + ", " + b + ", " + c + ")", x.another(a, b, c), m.another(a, b, c)); break; }
      case 41: { int a = d.near(0, 30), b = d.near(0, 5), c = d.near(0, 1);
        same("chase(" + a + ", " + b + ", " + c + ")", x.chase(a, b, c), m.chase(a, b, c)); break; }
      case 42: { int a = d.near(0, 255), b = d.near(0, 1);
        same("tour(" + a + ", " + b + ")", x.tour(a, b), m.tour(a, b)); break; }
      case 43: { int a = d.near(0, 7); same("twoCars(" + a + ")", x.twoCars(a), m.twoCars(a)); break; }
      case 44: same("image()", x.image(), m.image()); break;
      default: same("restore()", x.restore(), m.restore()); break;
    }
  }

  /** A ROW as the balloon's HOLD would make it, sometimes with one number off. */
  void rowOfHeights(Dice d) {
    same("clear()", x.clear(), m.clear());
    Model.Sky s = m.now.copy();
    int numbers = d.below(13);
    for (int i = 0; i < numbers; i++) {
      s.holdStep();
      int v = d.below(30) == 0 ? d.below(40) : s.height;
      same("row(" + v + ")", x.row(v), m.row(v));
    }
  }

  /** A ROW of pairs that mostly fit some LAYER. */
  void rowOfPairs(Dice d) {
    same("clear()", x.clear(), m.clear());
    int pairs = d.below(7);
    for (int i = 0; i < pairs; i++) {
      int[] wind = m.now.wind[d.below(8)];
      int side = wind[0] + 50 + (d.below(8) == 0 ? 1 : 0);
      int ahead = wind[1] + (d.below(8) == 0 ? 1 : 0);
      same("row(" + side + ")", x.row(side), m.row(side));
      same("row(" + ahead + ")", x.row(ahead), m.row(ahead));
    }
  }

  void rowOfWeights(Dice d) {
    same("clear()", x.clear(), m.clear());
    for (int i = 0; i < 8; i++) {
      int v = d.below(3) == 0 ? 0 : d.below(d.below(2) == 0 ? 100 : 6);
      same("row(" + v + ")", x.row(v), m.row(v));
    }
  }
}
