/** Long thrown runs of calls: the class answers as the model does. */
public final class RunsTest {
  private static final int RUNS = 600;

  public static void main(String[] args) {
    Check check = new Check();
    for (int run = 0; run < RUNS; run++) {
      Dice d = new Dice(run);
      Both both = new Both(check, "run " + run);
      prepare(both, d);
      // The longest of one() is a LAND of some 80 letters, and the counts at the end are some 50 calls.
      while (both.hasRoomFor(150)) {
        one(both, d);
      }
      both.sameCounts();
    }
    check.end();
  }

  private static void one(Both both, Dice d) {
    switch (d.below(40)) {
      case 0:
        both.tell(land(d));
        break;
      case 1:
        both.rowOfHeights(d);
        both.call(d.below(2) == 0 ? 30 : 34, d);
        break;
      case 2:
        both.rowOfPairs(d);
        both.call(28, d);
        break;
      case 3:
        both.rowOfWeights(d);
        both.call(d.below(2) == 0 ? 25 : 26, d);
        break;
      case 4:
      case 5:
      case 6:
        both.call(9, d);
        break;
      case 7:
        both.call(10, d);
        break;
      default:
        both.call(d.below(Both.CALLS), d);
        break;
    }
  }

  /** Wind, FIELDS where it may come DOWN, ROADS, and a balloon in the air. */
  private static void prepare(Both both, Dice d) {
    StringBuilder winds = new StringBuilder();
    for (int layer = 0; layer < 8; layer++) {
      winds.append('w').append(layer).append(d.below(2) == 0 ? '+' : '-').append(d.below(7)).append(d.below(7));
      winds.append(';');
    }
    both.tell(winds.toString());
    StringBuilder fields = new StringBuilder();
    int many = d.below(8);
    for (int i = 0; i < many; i++) {
      fields.append(fieldNear(d));
    }
    if (many > 0) {
      both.tell(fields.toString());
    }
    StringBuilder roads = new StringBuilder();
    int ways = 1 + d.below(15);
    for (int i = 0; i < ways; i++) {
      int one = d.below(8);
      int other = (one + 1 + d.below(7)) % 8;
      roads.append('r').append(one).append(other).append(two(d.among(1, d.below(2) == 0 ? 15 : 99))).append(';');
    }
    both.tell(roads.toString());
    int people = d.among(1, 6);
    int heat = 12 + 2 * people + d.among(-8, 12);
    both.tell("b" + two(heat) + two(d.below(31)) + people + ";l" + d.below(6) + ";h" + two(d.below(40)) + ";");
  }

  private static String fieldNear(Dice d) {
    return "f" + d.below(6) + d.below(10) + three(d.below(200)) + three(d.below(160)) + two(d.among(8, 30)) + ";";
  }

  /** A LAND of some STATEMENTS, mostly right, sometimes with a letter or a number off. */
  private static String land(Dice d) {
    StringBuilder land = new StringBuilder();
    int statements = d.below(7);
    for (int i = 0; i < statements; i++) {
      land.append(statement(d));
    }
    if (land.length() > 0 && d.below(4) == 0) {
      land.setCharAt(d.below(land.length()), "0123456789;wfrbhla+- x".charAt(d.below(22)));
    }
    if (land.length() > 0 && d.below(8) == 0) {
      land.setLength(d.below(land.length()));
    }
    return land.toString();
  }

  private static String statement(Dice d) {
    switch (d.below(7)) {
      case 0:
        return "w" + d.below(d.below(6) == 0 ? 10 : 8) + (d.below(2) == 0 ? '+' : '-') + d.below(10) + d.below(10) + ";";
      case 1:
        return d.below(6) == 0 ? "f" + d.below(10) + d.below(10) + "100050" + two(d.below(40)) + ";" : fieldNear(d);
      case 2:
        return "r" + d.below(d.below(6) == 0 ? 10 : 8) + d.below(8) + two(d.below(100)) + ";";
      case 3:
        return "b" + two(d.below(d.below(6) == 0 ? 100 : 61)) + two(d.below(d.below(6) == 0 ? 100 : 61))
            + (d.below(8) == 0 ? d.below(10) : d.among(1, 6)) + ";";
      case 4:
        return "h" + two(d.below(d.below(6) == 0 ? 100 : 40)) + ";";
      case 5:
        return "l" + d.below(d.below(6) == 0 ? 10 : 6) + ";";
      default:
        StringBuilder acts = new StringBuilder("a");
        int many = d.among(1, 9);
        for (int i = 0; i < many; i++) {
          acts.append(d.below(40) == 0 ? 3 + d.below(7) : d.below(3));
        }
        return acts.append(';').toString();
    }
  }

  private static String two(int v) {
    return "" + v / 10 % 10 + v % 10;
  }

  private static String three(int v) {
    return "" + v / 100 % 10 + two(v);
  }
}
