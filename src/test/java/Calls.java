/** Some calls on an object. */
interface Calls {
  void on(RobotCell x);

  /** Feeds a text. */
  static void feed(RobotCell x, String text) {
    for (int i = 0; i < text.length(); i++) {
      x.feed(text.charAt(i));
    }
  }

  /** Feeds a text and performs it. */
  static int perform(RobotCell x, String text) {
    feed(x, text);
    return x.perform();
  }
}
