/** Counts what is as due and tells what is not. */
final class Check {
  private int right;
  private int wrong;

  void is(String what, long got, long want) {
    if (got == want) {
      right++;
    } else {
      wrong++;
      if (wrong <= 40) {
        System.out.println(what + " answered " + got + ", due is " + want);
      }
    }
  }

  void holds(String what, boolean so) {
    is(what, so ? 1 : 0, 1);
  }

  /** Ends the program, with 1 if something was wrong or nothing was looked at. */
  void end() {
    System.out.println(right + " as due, " + wrong + " not");
    if (wrong != 0 || right == 0) {
      System.exit(1);
    }
  }
}
