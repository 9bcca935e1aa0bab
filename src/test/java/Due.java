/** Counts the answers that are not the ones that are due, and tells each of them. */
final class Due {
  private String about = "";
  private int wrong = 0;
  private int asked = 0;

  void about(String what) {
    about = what;
  }

  void is(String call, long got, long want) {
    asked++;
    if (got != want) tell(call, Long.toString(got), Long.toString(want));
  }

  void isReal(String call, double got, double want) {
    asked++;
    if (got != want) tell(call, Double.toString(got), Double.toString(want));
  }

  void same(String what, String got, String want) {
    asked++;
    if (!got.equals(want)) tell(what, got, want);
  }

  void holds(String what, boolean does) {
    asked++;
    if (!does) tell(what, "false", "true");
  }

  private void tell(String call, String got, String want) {
    wrong++;
    if (wrong <= 50) System.out.println(about + ": " + call + " answered " + got + ", due is " + want);
  }

  boolean allRight() {
    return wrong == 0;
  }

  void end() {
    System.out.println(wrong + " of " + asked + " answers are not as due");
    if (wrong != 0) System.exit(1);
  }
}
