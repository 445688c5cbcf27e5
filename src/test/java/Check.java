/** Counts answers that are not the ones that are due. */
final class Check {
  static final int BEYOND = -100001;
  static final int MISSING = -100002;
  static final int SIZE = -100003;
  static final int KIND = -100004;
  static final int FULL = -100005;
  static final int NONE = -100006;
  static final int RING = -100007;

  private int wrong = 0;
  private int asked = 0;

  void due(String what, long got, long want) {
    asked++;
    if (got != want) {
      wrong++;
      System.out.println(what + " answered " + got + ", due is " + want);
    }
  }

  void holds(String what, boolean good) {
    asked++;
    if (!good) {
      wrong++;
      System.out.println(what + " does not hold");
    }
  }

  int howManyWrong() {
    return wrong;
  }

  void end(String name) {
    System.out.println(name + ": " + asked + " looked at, " + wrong + " wrong");
    if (wrong != 0 || asked == 0) {
      System.exit(1);
    }
  }
}
