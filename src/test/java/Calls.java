/** Some calls on an object: a history, if the object is new. */
interface Calls {
  void on(RobotCell x);

  /** These calls and then others. */
  default Calls then(Calls others) {
    return x -> {
      on(x);
      others.on(x);
    };
  }

  /** A new object with this history. */
  default RobotCell made() {
    RobotCell x = new RobotCell();
    on(x);
    return x;
  }

  /** The same calls, of which one may throw. */
  static Calls tried(Calls calls) {
    return x -> thrown(x, calls);
  }

  /** The name of the exception that one of the calls throws, otherwise "nothing". */
  static String thrown(RobotCell x, Calls calls) {
    try {
      calls.on(x);
    } catch (RuntimeException e) {
      return e.getClass().getSimpleName();
    }
    return "nothing";
  }

  /** Feeds a text. */
  static void feed(RobotCell x, String text) {
    for (int i = 0; i < text.length(); i++) {
      x.feed(text.charAt(i));
    }
  }

  /** Feeds a text and performs it. */
  static int perform(RobotCell x, String text) {
    feed(x, text);
    return x.perform();
  }
}
