import java.util.function.Supplier;
import java.util.function.ToLongFunction;

/** Balloons made alike, to see that a call of one of them left nothing behind. */
final class Twins {
  private final Check check;

  Twins(Check check) {
    this.check = check;
  }

  /** One that has something of everything: FIELDS, ROADS, letters, a ROW, an image, WORK under way, two STEPS gone. */
  static DownAmongFences busy() {
    DownAmongFences x = Tale.of("w0+21;w1-13;w2+30;f1205000530;f0310300020;r0105;r1207;b33204;l2;h12;");
    x.car(2);
    x.image();
    x.row(1);
    x.row(2);
    x.row(10);
    x.feed('h');
    x.feed('0');
    x.go(1);
    x.go(2);
    return x;
  }

  /** Refused with this answer; it counts once, and nothing else is different. */
  void refused(String what, long answer, ToLongFunction<DownAmongFences> call) {
    refused(what, answer, Twins::busy, call);
  }

  void refused(String what, long answer, Supplier<DownAmongFences> make, ToLongFunction<DownAmongFences> call) {
    DownAmongFences x = make.get();
    DownAmongFences twin = make.get();
    check.is(what, call.applyAsLong(x), answer);
    int number = (int) (answer > 1000000009L ? 4000000000000000000L - answer
        : answer > 1000000000 ? 1000000000 - answer : answer);
    for (int k = 1; k <= 6; k++) {
      check.is(what + ": refusals -" + k, x.count(10 + k), twin.count(10 + k) + (number == -k ? 1 : 0));
    }
    alike(what, x, twin);
  }

  /** The call is not refused, and nothing is different behind it. */
  void leavesAll(String what, long answer, Supplier<DownAmongFences> make, ToLongFunction<DownAmongFences> call) {
    DownAmongFences x = make.get();
    DownAmongFences twin = make.get();
    check.is(what, call.applyAsLong(x), answer);
    for (int k = 11; k <= 16; k++) {
      check.is(what + ": count(" + k + ")", x.count(k), twin.count(k));
    }
    alike(what, x, twin);
  }

  /** Whatever both are asked for now, they answer the same. */
  void alike(String what, DownAmongFences x, DownAmongFences twin) {
    String then = ": nothing is different ";
    check.holds(what + then, Tale.state(x).equals(Tale.state(twin)));
    for (int k = 0; k < 5; k++) {
      check.is(what + then + "flown(" + k + ")", x.flown(k), twin.flown(k));
      check.is(what + then + "plan(2, 1, " + k + ")", x.plan(2, 1, k), twin.plan(2, 1, k));
    }
    check.is(what + then + "had(0, 0)", x.had(0, 0), twin.had(0, 0));
    check.is(what + then + "judge()", x.judge(), twin.judge());
    while (twin.count(18) > 0 && x.count(18) > 0) {
      check.is(what + then + "back()", x.back(), twin.back());
      check.is(what + then + "plan(0, 0, 3)", x.plan(0, 0, 3), twin.plan(0, 0, 3));
    }
    check.holds(what + then + "behind back()", Tale.state(x).equals(Tale.state(twin)));
    check.is(what + then + "feed()", x.feed(';'), twin.feed(';'));
    check.is(what + then + "land()", x.land(), twin.land());
    check.is(what + then + "restore()", x.restore(), twin.restore());
    check.holds(what + then + "behind restore()", Tale.state(x).equals(Tale.state(twin)));
  }
}
