/** Short ways to bring a balloon of the class to where a test begins. */
final class Tale {
  private Tale() {
  }

  /** A balloon to which STATEMENTS are told, as many LANDS as they need. */
  static DownAmongFences of(String... tales) {
    DownAmongFences x = new DownAmongFences();
    for (String letters : tales) {
      int answer = tell(x, letters);
      if (answer < 1) {
        throw new IllegalStateException("the test's own LAND is at fault: " + letters + " " + answer);
      }
    }
    return x;
  }

  /** The STATEMENT of a FIELD. */
  static String field(int kind, int figure, int x, int y, int size) {
    return String.format("f%d%d%03d%03d%02d;", kind, figure, x, y, size);
  }

  static int tell(DownAmongFences x, String letters) {
    for (int i = 0; i < letters.length(); i++) {
      x.feed(letters.charAt(i));
    }
    return x.land();
  }

  /** Brings a balloon to an X by the wind of the highest LAYER and leaves it DOWN there. */
  static void bringTo(DownAmongFences x, int place) {
    int way = place - x.count(2);
    int side = way < 0 ? -9 : 9;
    x.set(0, 39);
    x.set(3, 1);
    for (int gone = 0; gone < Math.abs(way) / 9; gone++) {
      if (gone % 20 == 0) {
        x.wind(7, side, 0);
        x.set(1, 60);
      }
      x.go(0);
    }
    x.wind(7, way % 9, 0);
    x.set(1, 60);
    x.go(0);
    x.set(0, 0);
  }

  static void row(DownAmongFences x, int... numbers) {
    x.clear();
    for (int v : numbers) {
      x.row(v);
    }
  }

  /** What all the counts tell, but those of REFUSALS. */
  static String state(DownAmongFences x) {
    StringBuilder all = new StringBuilder();
    for (int what = 0; what <= 18; what++) {
      if (what < 11 || what > 16) {
        all.append(x.count(what)).append(' ');
      }
    }
    for (int i = 0; i < 8; i++) {
      all.append(x.layer(i, 0)).append(' ').append(x.layer(i, 1)).append(' ').append(x.drive(i)).append(' ');
    }
    for (int i = 0; i < x.count(0); i++) {
      for (int what = 0; what < 5; what++) {
        all.append(x.field(i, what)).append(' ');
      }
    }
    return all.toString();
  }
}
