/** Counts what is as due and tells what is not. */
final class Check {
  private int right;
  private int wrong;
  private String about = "";

  /** What the next answers are about, told ahead of each. */
  void about(String words) {
    about = words.isEmpty() ? "" : words + " | ";
  }

  void is(String what, long got, long want) {
    if (got == want) {
      right++;
    } else {
      wrong++;
      if (wrong <= 40) {
        System.out.println(about + what + " answered " + got + ", due is " + want);
      }
    }
  }

  void holds(String what, boolean so) {
    is(what, so ? 1 : 0, 1);
  }

  int made() {
    return right + wrong;
  }

  /** Ends the program, with 1 if something was wrong or nothing was looked at. */
  void end() {
    System.out.println(right + " as due, " + wrong + " not");
    if (wrong != 0 || right == 0) {
      System.exit(1);
    }
  }
}
