/** Counts and prints the answers that are not due. */
final class Check {
  /** A call that is expected to throw. */
  interface Call {
    void run();
  }

  private int wrong = 0;
  private int asked = 0;

  void same(String what, long got, long due) {
    asked++;
    if (got != due) {
      wrong++;
      System.out.println(what + " answered " + got + ", due is " + due);
    }
  }

  void same(String what, boolean got, boolean due) {
    same(what, got ? 1 : 0, due ? 1 : 0);
  }

  void sameNumber(String what, double got, double due) {
    asked++;
    if (got != due) {
      wrong++;
      System.out.println(what + " answered " + got + ", due is " + due);
    }
  }

  void sameText(String what, String got, String due) {
    asked++;
    if (!got.equals(due)) {
      wrong++;
      System.out.println(what + " answered " + got + ", due is " + due);
    }
  }

  /** Demands exactly this exception, none of a class below it. */
  void throwing(String what, Class<? extends RuntimeException> due, Call call) {
    asked++;
    String got = "nothing";
    try {
      call.run();
    } catch (RuntimeException e) {
      got = e.getClass().getSimpleName();
    }
    if (!got.equals(due.getSimpleName())) {
      wrong++;
      System.out.println(what + " threw " + got + ", due is " + due.getSimpleName());
    }
  }

  /** Feeds a text and performs it. */
  static int perform(RobotCell cell, String text) {
    feed(cell, text);
    return cell.perform();
  }

  static void feed(RobotCell cell, String text) {
    for (int i = 0; i < text.length(); i++) {
      cell.feed(text.charAt(i));
    }
  }

  void end() {
    System.out.println(asked + " answers, " + wrong + " wrong");
    if (wrong > 0) {
      System.exit(1);
    }
  }
}
