import java.util.Arrays;
import java.util.function.Supplier;

/** The promises: of each call the least and the most it takes, what it refuses, and which refusal comes first. */
final class CallEdges {
  private static final int MIN = Integer.MIN_VALUE;
  private static final int MAX = Integer.MAX_VALUE;
  private static final int NOBODY = -1;
  private static final int OTHER = -2;
  private static final int STATE = -3;
  private static final int BELOW = -4;
  private static final int ROOM = -6;

  /** Where a new balloon is DOWN, and where none of the tests goes. */
  private static final String HERE = Tale.field(0, 0, 100, 0, 1);
  private static final String AWAY = Tale.field(0, 0, 900, 900, 1);

  /** A call of the class with its arguments. */
  private interface Call {
    long with(DownAmongFences x, int... a);
  }

  private final Sentences doc;
  private final Check check;
  private final Twins twins;

  CallEdges(Sentences doc, Check check) {
    this.doc = doc;
    this.check = check;
    this.twins = new Twins(check);
  }

  void all() {
    aNewObject();
    feed();
    land();
    layer();
    wind();
    field();
    cost();
    drag();
    set();
    rising();
    go();
    back();
    plan();
    had();
    best();
    left();
    keep();
    goingOn();
    blown();
    two();
    swing();
    calm();
    out();
    road();
    car();
    drive();
    waitAt();
    meanWait();
    turned();
    track();
    row();
    judge();
    clear();
    lots();
    crew();
    whichLag();
    windFor();
    span();
    flown();
    ceiling();
    game();
    another();
    chase();
    tour();
    twoCars();
    image();
    restore();
    count();
  }

  private void refused(Call call, long answer, int... args) {
    refused(Twins::busy, call, answer, args);
  }

  private void refused(Supplier<DownAmongFences> make, Call call, long answer, int... args) {
    twins.refused("arguments " + Arrays.toString(args), answer, make, x -> call.with(x, args));
  }

  /** Not refused. */
  private void taken(Call call, int... args) {
    taken(Twins::busy, call, args);
  }

  private void taken(Supplier<DownAmongFences> make, Call call, int... args) {
    DownAmongFences x = make.get();
    int before = refusals(x);
    call.with(x, args);
    check.is("refusals behind arguments " + Arrays.toString(args), refusals(x), before);
  }

  private static int refusals(DownAmongFences x) {
    int all = 0;
    for (int what = 11; what <= 16; what++) {
      all += x.count(what);
    }
    return all;
  }

  private void aNewObject() {
    doc.in("Promise 1");
    doc.says("No wind, no FIELDS, no ROADS", () -> {
      DownAmongFences x = new DownAmongFences();
      check.is("fields", x.count(0), 0);
      check.is("field 0", x.field(0, 0), -1);
      for (int i = 0; i < 8; i++) {
        check.is("side", x.layer(i, 0), 0);
        check.is("ahead", x.layer(i, 1), 0);
        check.is("road", x.road(i, (i + 1) % 8, 0), 0);
        check.is("way", x.drive(i), i == 0 ? 0 : -9);
      }
      int[] due = {0, 0, 100, 0, 20, 30, 4, 2, 0, 0, 0, 0, 0, 0, 0, 0, 0, 0, 0};
      for (int what = 0; what < due.length; what++) {
        check.is("count(" + what + ")", new DownAmongFences().count(what), due[what]);
      }
    });
  }

  private static DownAmongFences allLetters() {
    DownAmongFences x = Twins.busy();
    while (x.count(9) < 96) {
      x.feed('1');
    }
    return x;
  }

  private void feed() {
    doc.in("Promise 2");
    Call feed = (x, a) -> x.feed(a[0]);
    doc.says("A letter comes: how many there are", () -> {
      DownAmongFences x = new DownAmongFences();
      check.is("the first", x.feed('h'), 1);
      check.is("the second, whatever it is", x.feed(0), 2);
      check.is("there are", x.count(9), 2);
      x.land();
      check.is("the first again", x.feed('h'), 1);
    });
    doc.says("-4; -6 (255; 96, too)", () -> {
      refused(feed, BELOW, -1);
      refused(feed, BELOW, MIN);
      taken(feed, 0);
      taken(feed, 255);
      refused(feed, ROOM, 256);
      refused(feed, ROOM, MAX);
      refused(CallEdges::allLetters, feed, ROOM, 'h');
      refused(CallEdges::allLetters, feed, ROOM, 256);
      refused(CallEdges::allLetters, feed, BELOW, -1);
      DownAmongFences x = new DownAmongFences();
      for (int i = 1; i <= 96; i++) {
        check.is("letter " + i, x.feed('h'), i);
      }
    });
  }

  private void land() {
    doc.in("Promise 3");
    doc.says("The letters, which are no more then (with a FAULT neither), are a LAND: how many STATEMENTS", () -> {
      DownAmongFences x = new DownAmongFences();
      check.is("one", Tale.tell(x, "h01;"), 1);
      check.is("none left", x.count(9), 0);
      check.is("32", Tale.tell(x, "l0;l1;l2;l3;l4;l5;l0;l1;l2;l3;l4;l5;l0;l1;l2;l3;l4;l5;l0;l1;l2;l3;l4;l5;l0;l1;l2;l3;l4;l5;"
          + "l0;l1;"), 32);
      check.is("fault of kind 1", Tale.tell(x, "h01;h"), -1005);
      check.is("none left", x.count(9), 0);
      check.is("fault of kind 2", Tale.tell(x, "h40;"), -2000);
      check.is("none left", x.count(9), 0);
      check.is("fault of none", x.land(), -1000);
      check.is("what was there is gone", Tale.tell(x, "h02;"), 1);
    });
    doc.says("the FAULT (nothing is counted)", () -> {
      DownAmongFences x = Twins.busy();
      check.is("fault of kind 1", x.land(), -1002);
      check.is("fault of none", x.land(), -1000);
      check.is("fault of kind 2", Tale.tell(x, "h01;b00000;"), -2004);
      check.is("refusals", refusals(x), 0);
    });
  }

  private void layer() {
    doc.in("Promise 4");
    Call layer = (x, a) -> x.layer(a[0], a[1]);
    doc.says("-1; -2", () -> {
      for (int none : new int[] {-1, 8, MIN, MAX}) {
        refused(layer, 1000000001, none, 0);
        refused(layer, 1000000001, none, 2);
        refused(layer, 1000000002, 0, none < 0 ? none : 2);
        refused(layer, 1000000002, 7, none);
      }
      taken(layer, 0, 0);
      taken(layer, 7, 1);
      DownAmongFences x = Tale.of("w5-90;");
      check.is("below 0 is no refusal", x.layer(5, 0), -9);
      check.is("refusals", refusals(x), 0);
    });
  }

  private void wind() {
    doc.in("Promise 5");
    Call wind = (x, a) -> x.wind(a[0], a[1], a[2]);
    doc.says("100 times (the SIDE it had and 9) and the AHEAD it had", () -> {
      DownAmongFences x = new DownAmongFences();
      check.is("0, 0", x.wind(7, -9, 0), 900);
      check.is("-9, 0", x.wind(7, -9, 9), 0);
      check.is("-9, 9", x.wind(7, 9, 9), 9);
      check.is("9, 9", x.wind(7, 9, 0), 1809);
      check.is("9, 0", x.wind(7, 9, 0), 1800);
    });
    doc.says("-1; -4 (SIDE below -9, AHEAD below 0); -6 9", () -> {
      for (int none : new int[] {-1, 8, MIN, MAX}) {
        refused(wind, NOBODY, none, 0, 0);
        refused(wind, NOBODY, none, -10, 10);
      }
      refused(wind, BELOW, 0, -10, 0);
      refused(wind, BELOW, 0, MIN, 10);
      refused(wind, BELOW, 0, 0, -1);
      refused(wind, BELOW, 0, 10, MIN);
      refused(wind, ROOM, 0, 10, 0);
      refused(wind, ROOM, 0, MAX, 9);
      refused(wind, ROOM, 0, 0, 10);
      refused(wind, ROOM, 0, -9, MAX);
      taken(wind, 0, -9, 0);
      taken(wind, 7, 9, 9);
    });
  }

  private void field() {
    doc.in("Promise 6");
    Call field = (x, a) -> x.field(a[0], a[1]);
    doc.says("-1; -2", () -> {
      for (int none : new int[] {-1, 2, 7, 8, MIN, MAX}) {
        refused(field, NOBODY, none, 0);
        refused(field, NOBODY, none, 5);
      }
      for (int other : new int[] {-1, 5, MIN, MAX}) {
        refused(field, OTHER, 1, other);
      }
      taken(field, 0, 0);
      taken(field, 1, 4);
      check.is("no fields", new DownAmongFences().field(0, 0), -1);
    });
  }

  private void cost() {
    doc.in("Promise 7");
    Call cost = (x, a) -> x.cost(a[0], a[1]);
    doc.says("COST of a FIELD with PACE p (0 .. 20). -1; -4; -6", () -> {
      for (int none : new int[] {-1, 2, 8, MIN, MAX}) {
        refused(cost, NOBODY, none, 0);
        refused(cost, NOBODY, none, -1);
        refused(cost, NOBODY, none, 21);
      }
      refused(cost, BELOW, 0, -1);
      refused(cost, BELOW, 1, MIN);
      refused(cost, ROOM, 0, 21);
      refused(cost, ROOM, 1, MAX);
      taken(cost, 0, 0);
      taken(cost, 1, 20);
    });
  }

  private void drag() {
    doc.in("Promise 8");
    Call drag = (x, a) -> x.drag(a[0]);
    doc.says("-4; -6 20", () -> {
      refused(drag, BELOW, -1);
      refused(drag, BELOW, MIN);
      refused(drag, ROOM, 21);
      refused(drag, ROOM, MAX);
      taken(drag, 0);
      taken(drag, 20);
    });
  }

  private void set() {
    doc.in("Promise 9");
    Call set = (x, a) -> x.set(a[0], a[1]);
    doc.says("what it was. -2; -4; -6", () -> {
      int[] least = {0, 0, 0, 1, 0};
      int[] most = {39, 60, 60, 6, 5};
      for (int other : new int[] {-1, 5, MIN, MAX}) {
        refused(set, OTHER, other, 0);
        refused(set, OTHER, other, -1);
        refused(set, OTHER, other, 61);
      }
      for (int what = 0; what < 5; what++) {
        refused(set, BELOW, what, least[what] - 1);
        refused(set, BELOW, what, MIN);
        refused(set, ROOM, what, most[what] + 1);
        refused(set, ROOM, what, MAX);
        taken(set, what, least[what]);
        taken(set, what, most[what]);
      }
    });
  }

  private void rising() {
    doc.in("Promise 10");
    doc.says("RISING (may be below 0)", () -> {
      DownAmongFences x = new DownAmongFences();
      x.set(3, 6);
      x.set(1, 0);
      check.is("the least", x.rising(), -6);
      x.set(1, 20);
      check.is("just below 0", x.rising(), -1);
      x.set(1, 21);
      check.is("0", x.rising(), 0);
      check.is("it is no refusal", refusals(x), 0);
    });
  }

  private void go() {
    doc.in("Promise 11");
    Call go = (x, a) -> x.go(a[0]);
    doc.says("-2; -3 FIRE without GAS; -6 STEP 999", () -> {
      for (int other : new int[] {-1, 3, MIN, MAX}) {
        refused(go, OTHER, other);
      }
      Supplier<DownAmongFences> dry = () -> {
        DownAmongFences x = Twins.busy();
        x.set(2, 1);
        x.go(1);
        return x;
      };
      refused(dry, go, STATE, 1);
      refused(dry, go, OTHER, 3);
      taken(dry, go, 0);
      taken(dry, go, 2);
      // Only beyond the 512 calls that are promised; the class goes on the same.
      Supplier<DownAmongFences> last = () -> StateEdges.farAlong(999);
      for (int act = 0; act < 3; act++) {
        refused(last, go, ROOM, act);
      }
      refused(last, go, OTHER, 3);
      taken(() -> StateEdges.farAlong(998), go, 0);
    });
  }

  private void back() {
    doc.in("Promise 12");
    Call back = (x, a) -> x.back();
    doc.says("TAKEN BACK: STEP. -3 none", () -> {
      refused(DownAmongFences::new, back, STATE);
      refused(() -> {
        DownAmongFences x = Twins.busy();
        x.back();
        x.back();
        return x;
      }, back, STATE);
      DownAmongFences x = Twins.busy();
      check.is("step", x.back(), 1);
      check.is("step", x.back(), 0);
    });
  }

  /** k and p of a PLAN ahead of what; those ahead of them are as they are. */
  private void planRefused(Call call, int most, int... ahead) {
    int[][] cases = {{BELOW, -1, 0, 0}, {BELOW, MIN, 0, 0}, {BELOW, 0, -1, 0}, {BELOW, 0, MIN, 0}, {BELOW, -1, 6, most + 1},
        {BELOW, 31, -1, -1}, {ROOM, 31, 0, 0}, {ROOM, MAX, 0, 0}, {ROOM, 0, 6, 0}, {ROOM, 0, MAX, 0}, {ROOM, 31, 5, -1},
        {ROOM, 30, 6, most + 1}, {OTHER, 0, 0, -1}, {OTHER, 0, 0, MIN}, {OTHER, 30, 5, most + 1}, {OTHER, 30, 5, MAX}};
    for (int[] c : cases) {
      refused(call, c[0], joined(ahead, c[1], c[2], c[3]));
    }
    taken(call, joined(ahead, 0, 0, 0));
    taken(call, joined(ahead, 30, 5, most));
  }

  private static int[] joined(int[] ahead, int... behind) {
    int[] all = Arrays.copyOf(ahead, ahead.length + behind.length);
    System.arraycopy(behind, 0, all, ahead.length, behind.length);
    return all;
  }

  private void plan() {
    doc.in("Promise 13");
    doc.says("COST (5); -9. -4 either; -6 (30; 5); -2", () -> {
      planRefused((x, a) -> x.plan(a[0], a[1], a[2]), 5);
      DownAmongFences x = Tale.of("b60001;l0;h39;");
      for (int what = 0; what < 6; what++) {
        check.is("none: " + what, x.plan(0, 0, what), -9);
      }
      check.is("it is no refusal", refusals(x), 0);
    });
  }

  /** A FIELD and then what (0 .. most). */
  private void fieldRefused(Call call, int most) {
    for (int none : new int[] {-1, 2, 8, MIN, MAX}) {
      refused(call, NOBODY, none, 0);
      refused(call, NOBODY, none, most + 1);
    }
    for (int other : new int[] {-1, most + 1, MIN, MAX}) {
      refused(call, OTHER, 0, other);
    }
    taken(call, 0, 0);
    taken(call, 1, most);
    refused(DownAmongFences::new, call, NOBODY, 0, 0);
  }

  private void had() {
    doc.in("Promise 14");
    doc.says("how many (what 0), the first (1; -9), the softest (2; -9). -1; -2", () -> {
      fieldRefused((x, a) -> x.had(a[0], a[1]), 2);
      DownAmongFences x = Tale.of(AWAY, "h05;");
      check.is("none", x.had(0, 0), 0);
      check.is("no first", x.had(0, 1), -9);
      check.is("no softest", x.had(0, 2), -9);
      x = Tale.of(HERE);
      check.is("all", x.had(0, 0), 186);
      check.is("the first of all", x.had(0, 1), 0);
      check.is("the softest of all", x.had(0, 2), 0);
    });
  }

  /** What (0 .. most) alone. */
  private void whatRefused(Call call, int most) {
    for (int other : new int[] {-1, most + 1, MIN, MAX}) {
      refused(call, OTHER, other);
    }
    taken(call, 0);
    taken(call, most);
  }

  private void best() {
    doc.in("Promise 15");
    doc.says("BEST PLAN: it (what 0; -9), COST (1; -9). -2", () -> {
      whatRefused((x, a) -> x.best(a[0]), 1);
      check.is("the first of all", new DownAmongFences().best(0), 0);
      check.is("its cost", new DownAmongFences().best(1), 40);
    });
  }

  private void left() {
    doc.in("Promise 16");
    doc.says("FIELDS LEFT (bits)", () -> {
      check.is("no fields", new DownAmongFences().left(), 0);
      check.is("one", Tale.of(HERE).left(), 1);
      check.is("beneath another", Tale.of(HERE, HERE).left(), 1);
      check.is("the second", Tale.of(AWAY, HERE).left(), 2);
    });
  }

  private void keep() {
    doc.in("Promise 17");
    Call keep = (x, a) -> x.keep(a[0]);
    doc.says("KEEP; -9. -1", () -> {
      for (int none : new int[] {-1, 2, 8, MIN, MAX}) {
        refused(keep, NOBODY, none);
      }
      refused(DownAmongFences::new, keep, NOBODY, 0);
      taken(keep, 0);
      taken(keep, 1);
      check.is("none", Tale.of(AWAY, "h05;").keep(0), -9);
      check.is("0", Tale.of(HERE).keep(0), 0);
    });
  }

  private void goingOn() {
    doc.in("Promise 18");
    Call goingOn = (x, a) -> x.goingOn(a[0]);
    doc.says("Refused as told: -4; -6 20", () -> {
      refused(goingOn, 1000000004, -1);
      refused(goingOn, 1000000004, MIN);
      refused(goingOn, 1000000006, 21);
      refused(goingOn, 1000000006, MAX);
      taken(goingOn, 0);
      taken(goingOn, 20);
    });
  }

  private void blown() {
    doc.in("Promise 19");
    doc.says("right (what 0), left (1), AHEAD (2). -2", () -> whatRefused((x, a) -> x.blown(a[0]), 2));
  }

  private void two() {
    doc.in("Promise 20");
    Call two = (x, a) -> x.two(a[0], a[1], a[2]);
    doc.says("STEPS (what 0; -9), which (1; -9). -4 (side below -99, ahead below 0); -6 99; -2", () -> {
      int[][] cases = {{BELOW, -100, 0, 0}, {BELOW, MIN, 0, 0}, {BELOW, 0, -1, 0}, {BELOW, 0, MIN, 0}, {BELOW, 100, -1, 2},
          {BELOW, -100, 100, 2}, {ROOM, 100, 0, 0}, {ROOM, MAX, 0, 0}, {ROOM, 0, 100, 0}, {ROOM, 0, MAX, 0}, {ROOM, 100, 0, 2},
          {ROOM, -99, 100, -1}, {OTHER, 0, 0, -1}, {OTHER, 0, 0, 2}, {OTHER, 99, 99, MIN}, {OTHER, -99, 0, MAX}};
      for (int[] c : cases) {
        refused(two, c[0], c[1], c[2], c[3]);
      }
      taken(two, -99, 0, 0);
      taken(two, 99, 99, 1);
      check.is("never", new DownAmongFences().two(1, 0, 0), -9);
      check.is("which, never", new DownAmongFences().two(1, 0, 1), -9);
      check.is("at once", new DownAmongFences().two(0, 0, 0), 0);
      check.is("which, at once", new DownAmongFences().two(0, 0, 1), 0);
    });
  }

  private void swing() {
    doc.in("Promise 21");
    doc.says("at first (what 0), later (1), WHETHER (2). -2", () -> whatRefused((x, a) -> x.swing(a[0]), 2));
  }

  private void calm() {
    doc.in("Promise 22");
    doc.says("CALM; -9", () -> {
      DownAmongFences x = Tale.of("b10601;l0;h35;");
      check.is("none", x.calm(), -9);
      x.set(1, 9);
      check.is("the last", x.calm(), 9);
      check.is("the first", new DownAmongFences().calm(), 1);
    });
  }

  private void out() {
    doc.in("Promise 23");
    doc.says("OUT; -9", () -> {
      check.is("not down", Tale.of("h01;").out(), -9);
      check.is("down", Tale.of("b00001;").out(), 1);
      check.is("down, none", Tale.of("b60001;").out(), 0);
    });
  }

  private void road() {
    doc.in("Promise 24");
    Call road = (x, a) -> x.road(a[0], a[1], a[2]);
    doc.says("become v (0: none): what they were (0: none). -1 (one twice, too); -4; -6 99", () -> {
      for (int none : new int[] {-1, 8, MIN, MAX}) {
        refused(road, NOBODY, none, 0, 1);
        refused(road, NOBODY, 0, none, -1);
        refused(road, NOBODY, none, none, 100);
      }
      for (int twice = 0; twice < 8; twice += 7) {
        refused(road, NOBODY, twice, twice, 1);
        refused(road, NOBODY, twice, twice, -1);
        refused(road, NOBODY, twice, twice, 100);
      }
      refused(road, BELOW, 0, 1, -1);
      refused(road, BELOW, 0, 7, MIN);
      refused(road, ROOM, 0, 1, 100);
      refused(road, ROOM, 7, 0, MAX);
      DownAmongFences x = new DownAmongFences();
      check.is("none", x.road(7, 0, 1), 0);
      check.is("1", x.road(0, 7, 99), 1);
      check.is("99", x.road(7, 0, 0), 99);
      check.is("none again", x.road(0, 7, 0), 0);
      check.is("refusals", refusals(x), 0);
    });
  }

  private void car() {
    doc.in("Promise 25");
    Call car = (x, a) -> x.car(a[0]);
    doc.says("-1", () -> placeRefused(car));
  }

  private void placeRefused(Call call) {
    for (int none : new int[] {-1, 8, MIN, MAX}) {
      refused(call, NOBODY, none);
    }
    taken(call, 0);
    taken(call, 7);
  }

  private void drive() {
    doc.in("Promise 26");
    doc.says("-9. -1", () -> {
      placeRefused((x, a) -> x.drive(a[0]));
      check.is("no way", new DownAmongFences().drive(7), -9);
      check.is("no way needed", new DownAmongFences().drive(0), 0);
    });
  }

  private static DownAmongFences rowOf(int numbers) {
    DownAmongFences x = Twins.busy();
    x.clear();
    while (x.count(10) < numbers) {
      x.row(5);
    }
    return x;
  }

  private void waitAt() {
    doc.in("Promise 27");
    Call waitAt = (x, a) -> x.waitAt();
    doc.says("WAIT by the ROW (it stays): the PLACE. -3 it has not 8", () -> {
      for (int numbers = 0; numbers <= 12; numbers++) {
        int n = numbers;
        if (n == 8) {
          taken(() -> rowOf(n), waitAt);
          twins.leavesAll("eight", 1, () -> rowOf(n), x -> x.waitAt());
        } else {
          refused(() -> rowOf(n), waitAt, STATE);
        }
      }
    });
  }

  private void meanWait() {
    doc.in("Promise 28");
    Call meanWait = (x, a) -> x.meanWait(a[0]);
    doc.says("WAIT: that mean; part 0 above, 1 below the line", () -> {
      DownAmongFences x = Tale.of("r0106;");
      Tale.row(x, 4, 2, 0, 0, 0, 0, 0, 0);
      check.is("above", x.meanWait(0), 2);
      check.is("below", x.meanWait(1), 1);
      Tale.row(x, 0, 0, 0, 0, 0, 0, 0, 0);
      check.is("above, no weights", x.meanWait(0), 0);
      check.is("below, no weights", x.meanWait(1), 1);
      check.is("the row stays", x.count(10), 8);
    });
    doc.says("Refused as told: -3 likewise; -2", () -> {
      for (int numbers = 0; numbers <= 12; numbers++) {
        int n = numbers;
        if (n == 8) {
          for (int other : new int[] {-1, 2, MIN, MAX}) {
            refused(() -> rowOf(n), meanWait, 4000000000000000002L, other);
          }
          taken(() -> rowOf(n), meanWait, 0);
          taken(() -> rowOf(n), meanWait, 1);
        } else {
          refused(() -> rowOf(n), meanWait, 4000000000000000003L, 0);
          refused(() -> rowOf(n), meanWait, 4000000000000000003L, 2);
        }
      }
    });
  }

  private void turned() {
    doc.in("Promise 29");
    Call turned = (x, a) -> x.turned(a[0], a[1]);
    doc.says("TURNED; -9. -1 (one twice, too)", () -> {
      for (int none : new int[] {-1, 8, MIN, MAX}) {
        refused(turned, NOBODY, none, 0);
        refused(turned, NOBODY, 7, none);
        refused(turned, NOBODY, none, none);
      }
      refused(turned, NOBODY, 0, 0);
      refused(turned, NOBODY, 7, 7);
      taken(turned, 0, 7);
      taken(turned, 7, 0);
      check.is("no road", new DownAmongFences().turned(0, 7), -9);
      check.is("none then", Tale.of("r0705;").turned(7, 0), -9);
    });
  }

  private void track() {
    doc.in("Promise 30");
    Call track = (x, a) -> x.track(a[0]);
    doc.says("LAYERS (what 0), the first pair (1; -9). -2; -3 an unwhole pair", () -> {
      for (int numbers = 0; numbers <= 12; numbers++) {
        int n = numbers;
        for (int other : new int[] {-1, 2, MIN, MAX}) {
          refused(() -> rowOf(n), track, OTHER, other);
        }
        for (int what = 0; what < 2; what++) {
          if (n % 2 == 1) {
            refused(() -> rowOf(n), track, STATE, what);
          } else {
            taken(() -> rowOf(n), track, what);
          }
        }
      }
      check.is("no pair that fits none", new DownAmongFences().track(1), -9);
    });
    doc.says("A TRACK by the ROW (it stays)", () -> {
      twins.leavesAll("twelve", 0, () -> rowOf(12), x -> x.track(0));
      twins.leavesAll("twelve", 0, () -> rowOf(12), x -> x.track(1));
    });
  }

  private void row() {
    doc.in("Promise 31");
    Call row = (x, a) -> x.row(a[0]);
    doc.says("A number more of the ROW: how many", () -> {
      DownAmongFences x = new DownAmongFences();
      for (int i = 1; i <= 12; i++) {
        check.is("number " + i, x.row(i == 6 ? 99 : 0), i);
        check.is("there are", x.count(10), i);
      }
    });
    doc.says("-4; -6 (99; 12, too)", () -> {
      refused(row, BELOW, -1);
      refused(row, BELOW, MIN);
      refused(row, ROOM, 100);
      refused(row, ROOM, MAX);
      taken(row, 0);
      taken(row, 99);
      taken(() -> rowOf(11), row, 0);
      refused(() -> rowOf(12), row, ROOM, 0);
      refused(() -> rowOf(12), row, ROOM, 100);
      refused(() -> rowOf(12), row, BELOW, -1);
    });
  }

  private void judge() {
    doc.in("Promise 32");
    doc.says("JUDGED; -9 (whichever it answers, the ROW has none then)", () -> {
      DownAmongFences x = new DownAmongFences();
      Tale.row(x, 0, 0, 0);
      check.is("all are so", x.judge(), -9);
      check.is("none then", x.count(10), 0);
      Tale.row(x, 1);
      check.is("the first is not so", x.judge(), 0);
      check.is("none then", x.count(10), 0);
      check.is("of none", x.judge(), -9);
      check.is("none then", x.count(10), 0);
      check.is("the first again", x.row(3), 1);
      check.is("refusals", refusals(x), 0);
    });
  }

  private void clear() {
    doc.in("Promise 33");
    doc.says("The ROW has none then: how many it had", () -> {
      for (int numbers = 0; numbers <= 12; numbers++) {
        DownAmongFences x = rowOf(numbers);
        check.is("it had", x.clear(), numbers);
        check.is("it has", x.count(10), 0);
        check.is("again", x.clear(), 0);
        check.is("the first again", x.row(3), 1);
      }
    });
  }

  private void lots() {
    doc.in("Promise 34");
    Call lots = (x, a) -> x.lots(a[0], a[1], a[2]);
    doc.says("-4; -6 20; -2", () -> {
      refused(lots, BELOW, 0, 0, 0);
      refused(lots, BELOW, 0, MIN, 2);
      refused(lots, BELOW, MIN, MAX, -1);
      refused(lots, ROOM, 21, 0, 0);
      refused(lots, ROOM, 21, MAX, 2);
      refused(lots, ROOM, MAX, MIN, -1);
      for (int other : new int[] {-1, 2, MIN, MAX}) {
        refused(lots, OTHER, 1, 0, other);
        refused(lots, OTHER, 20, MIN, other);
      }
      for (int z : new int[] {MIN, -1, 0, 1, MAX}) {
        taken(lots, 1, z, 0);
        taken(lots, 20, z, 1);
      }
    });
  }

  private void crew() {
    doc.in("Promise 35");
    doc.says("PEOPLE (what 0), COST (1); -9. -2", () -> whatRefused((x, a) -> x.crew(a[0]), 1));
  }

  private void whichLag() {
    doc.in("Promise 36");
    doc.says("WHICH LAG (bits; the ROW stays)", () -> {
      twins.leavesAll("none fits", 0, () -> rowOf(12), x -> x.whichLag());
      twins.leavesAll("all fit", 63, () -> rowOf(0), x -> x.whichLag());
    });
  }

  private void windFor() {
    doc.in("Promise 37");
    Call windFor = (x, a) -> x.windFor(a[0], a[1], a[2], a[3]);
    doc.says("-1; -4 either; -6 (30; 5); -2", () -> {
      for (int none : new int[] {-1, 2, 8, MIN, MAX}) {
        refused(windFor, NOBODY, none, 0, 0, 0);
        refused(windFor, NOBODY, none, -1, 6, 2);
        refused(windFor, NOBODY, none, 31, 0, -1);
      }
      planRefused(windFor, 1, 0);
      planRefused(windFor, 1, 1);
    });
    doc.says("how many (what 0), the least and 9 (1; -9)", () -> {
      DownAmongFences x = Tale.of(AWAY, "h05;");
      check.is("none", x.windFor(0, 0, 0, 0), 0);
      check.is("no least", x.windFor(0, 0, 0, 1), -9);
      x = Tale.of(HERE);
      check.is("all", x.windFor(0, 0, 0, 0), 19);
      check.is("the least of all", x.windFor(0, 0, 0, 1), 0);
    });
  }

  private void span() {
    doc.in("Promise 38");
    Call span = (x, a) -> x.span(a[0], a[1], a[2]);
    doc.says("the first (what 0), the last (1); -9. -1; -4; -6 5; -2", () -> {
      for (int none : new int[] {-1, 2, 8, MIN, MAX}) {
        refused(span, NOBODY, none, 0, 0);
        refused(span, NOBODY, none, -1, 2);
        refused(span, NOBODY, none, 6, 2);
      }
      int[][] cases = {{BELOW, -1, 0}, {BELOW, MIN, 2}, {ROOM, 6, 0}, {ROOM, MAX, -1}, {OTHER, 0, -1}, {OTHER, 5, 2},
          {OTHER, 0, MIN}, {OTHER, 5, MAX}};
      for (int[] c : cases) {
        refused(span, c[0], 0, c[1], c[2]);
      }
      taken(span, 0, 0, 0);
      taken(span, 1, 5, 1);
      DownAmongFences x = Tale.of(AWAY, "h05;");
      check.is("no first", x.span(0, 0, 0), -9);
      check.is("no last", x.span(0, 0, 1), -9);
    });
  }

  private void flown() {
    doc.in("Promise 39");
    doc.says("FLOWN by the ROW (it stays): HEIGHT (what 0), X (1), Y (2), HEAT (3), GAS (4). -2", () -> {
      whatRefused((x, a) -> x.flown(a[0]), 4);
      DownAmongFences x = Tale.of("b25304;l0;h05;");
      int[] now = {5, 100, 0, 25, 30};
      for (int what = 0; what < 5; what++) {
        check.is("by an empty row: " + what, x.flown(what), now[what]);
      }
      twins.leavesAll("by twelve", 2, () -> {
        DownAmongFences y = Tale.of("b25304;l0;h05;", HERE);
        Tale.row(y, 1, 1, 1, 1, 0, 0, 0, 0, 2, 2, 2, 2);
        y.image();
        return y;
      }, y -> y.flown(0) > 5 ? 2 : y.flown(0));
    });
  }

  private void ceiling() {
    doc.in("Promise 40");
    doc.says("HEIGHT (what 0), STEPS (1). -2", () -> whatRefused((x, a) -> x.ceiling(a[0]), 1));
  }

  private void game() {
    doc.in("Promise 41");
    doc.says("the pair (what 0; -9), COST by it (1; -9), SURE (2). -2", () -> {
      whatRefused((x, a) -> x.game(a[0]), 2);
      String to0 = Tale.field(0, 0, 104, 2, 1);
      String turned0 = Tale.field(1, 0, 96, 2, 1);
      DownAmongFences x = Tale.of("w0+21;w1-13;b17004;l0;h05;", to0, turned0);
      check.is("a pair", x.game(0), 1);
      check.is("its cost", x.game(1), 7);
      check.is("sure", x.game(2), 7);
      Tale.tell(x, Tale.field(3, 4, 108, 4, 1) + Tale.field(3, 1, 92, 4, 1));
      check.is("no pair", x.game(0), -9);
      check.is("no cost", x.game(1), -9);
      check.is("sure all the same", x.game(2), 6);
    });
  }

  private void another() {
    doc.in("Promise 42");
    Call another = (x, a) -> x.another(a[0], a[1], a[2]);
    doc.says("ANOTHER; -9. -4 (q below 1, others below 0); -6 (30; 5; 6)", () -> {
      int[][] cases = {{BELOW, -1, 0, 1}, {BELOW, 0, -1, 1}, {BELOW, 0, 0, 0}, {BELOW, MIN, 5, 6}, {BELOW, 30, MIN, 6},
          {BELOW, 30, 5, MIN}, {BELOW, 31, 6, 0}, {BELOW, -1, 6, 7}, {BELOW, 31, -1, 7}, {ROOM, 31, 0, 1}, {ROOM, 0, 6, 1},
          {ROOM, 0, 0, 7}, {ROOM, MAX, 0, 1}, {ROOM, 0, MAX, 1}, {ROOM, 0, 0, MAX}};
      for (int[] c : cases) {
        refused(another, c[0], c[1], c[2], c[3]);
      }
      taken(another, 0, 0, 1);
      taken(another, 30, 5, 6);
      check.is("not down", Tale.of("b60001;l0;h39;").another(0, 0, 1), -9);
    });
  }

  private void chase() {
    doc.in("Promise 43");
    doc.says("MINUTES (what 0), whether (1); -9. -4 either; -6 (30; 5); -2", () -> {
      planRefused((x, a) -> x.chase(a[0], a[1], a[2]), 1);
      check.is("no way", new DownAmongFences().chase(0, 0, 0), -9);
      check.is("whether, no way", new DownAmongFences().chase(0, 0, 1), -9);
      check.is("not down", Tale.of("b60001;l0;h39;r0101;").chase(0, 0, 0), -9);
      check.is("whether, not down", Tale.of("b60001;l0;h39;r0101;").chase(0, 0, 1), -9);
    });
  }

  private void tour() {
    doc.in("Promise 44");
    Call tour = (x, a) -> x.tour(a[0], a[1]);
    doc.says("MINUTES (what 0), the first (1); -9. -4; -6 255; -2", () -> {
      int[][] cases = {{BELOW, -1, 0}, {BELOW, MIN, 2}, {ROOM, 256, 0}, {ROOM, MAX, -1}, {OTHER, 0, -1}, {OTHER, 255, 2},
          {OTHER, 0, MIN}, {OTHER, 255, MAX}};
      for (int[] c : cases) {
        refused(tour, c[0], c[1], c[2]);
      }
      taken(tour, 0, 0);
      taken(tour, 255, 1);
      check.is("no places", new DownAmongFences().tour(0, 0), 0);
      check.is("no first", new DownAmongFences().tour(0, 1), -9);
      check.is("no way", new DownAmongFences().tour(255, 0), -9);
      check.is("no first", new DownAmongFences().tour(255, 1), -9);
    });
  }

  private void twoCars() {
    doc.in("Promise 45");
    doc.says("-1", () -> placeRefused((x, a) -> x.twoCars(a[0])));
  }

  private void image() {
    doc.in("Promise 46");
    doc.says("THE IMAGE is taken: STEP", () -> {
      DownAmongFences x = Twins.busy();
      check.is("step", x.image(), 2);
      check.is("what can be taken back stays", x.count(18), 2);
      x.back();
      check.is("step", x.restore(), 2);
      check.is("of a new object", new DownAmongFences().image(), 0);
    });
  }

  private void restore() {
    doc.in("Promise 47");
    Call restore = (x, a) -> x.restore();
    doc.says("-3 there is none", () -> {
      refused(DownAmongFences::new, restore, STATE);
      refused(() -> {
        DownAmongFences x = Tale.of("h05;");
        x.go(0);
        return x;
      }, restore, STATE);
      taken(restore);
    });
  }

  private void count() {
    doc.in("Promise 48");
    Call count = (x, a) -> x.count(a[0]);
    doc.says("10 in the ROW, 17 CAR, 18 what can be TAKEN BACK, 11 .. 16 REFUSALS -1 .. -6. -9 for another what", () -> {
      for (int other : new int[] {-1, 19, MIN, MAX}) {
        check.is("count(" + other + ")", Twins.busy().count(other), -9);
        taken(count, other);
      }
      DownAmongFences x = rowOf(12);
      x.car(7);
      x.go(0);
      int[] due = {2, 0, 0, 0, 0, 0, 0, 0, 0, 2, 12, 1, 2, 3, 4, 0, 6, 7, 1};
      for (int k = 1; k <= 6; k++) {
        for (int i = 0; i < k; i++) {
          refuse(x, k);
        }
      }
      for (int what = 9; what <= 18; what++) {
        check.is("count(" + what + ")", x.count(what), due[what]);
      }
      check.is("count(0)", x.count(0), 2);
    });
  }

  private static void refuse(DownAmongFences x, int kind) {
    switch (kind) {
      case 1: x.car(8); break;
      case 2: x.go(3); break;
      case 3: x.waitAt(); break;
      case 4: x.row(-1); break;
      case 6: x.row(1); break;
      default: break;
    }
  }
}
