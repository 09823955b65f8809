import java.util.function.IntUnaryOperator;

/** Compares answers with those that are due, prints what differs and counts it. */
final class Check {
  private static final String NOTHING = "nothing";

  private String sentence = "";
  private int asked = 0;
  private int wrong = 0;

  /** Names the sentence that the next answers are for. */
  void about(Says says) {
    sentence = says.at() + ", \"" + says.text() + "\"\n    ";
  }

  int asked() {
    return asked;
  }

  int wrong() {
    return wrong;
  }

  void same(String what, long got, long due) {
    hold(what + " answered " + got + ", due is " + due, got == due);
  }

  void same(String what, boolean got, boolean due) {
    hold(what + " answered " + got + ", due is " + due, got == due);
  }

  void sameNumber(String what, double got, double due) {
    hold(what + " answered " + got + ", due is " + due, got == due);
  }

  void sameText(String what, String got, String due) {
    String[] gotLines = got.split("\n");
    String[] dueLines = due.split("\n");
    int line = 0;
    while (line < gotLines.length - 1 && line < dueLines.length - 1 && gotLines[line].equals(dueLines[line])) {
      line++;
    }
    hold(what + ", line " + line + ": " + gotLines[line] + "\n    due is " + dueLines[line], got.equals(due));
  }

  /** All answers of a row, for 0, 1 and so on. */
  void sameRow(String what, IntUnaryOperator answer, int... due) {
    for (int i = 0; i < due.length; i++) {
      same(what + ", " + i, answer.applyAsInt(i), due[i]);
    }
  }

  /** Demands exactly this exception, none of a class below it, and an object that is as if the call were not made. */
  void refused(String what, Class<? extends RuntimeException> due, Calls before, Calls call) {
    refused(what, due, prepared(before), prepared(before), call);
  }

  /** The same for an object for which nothing was saved. */
  void refusedUnsaved(String what, Class<? extends RuntimeException> due, Calls before, Calls call) {
    refused(what, due, made(before), made(before), call);
  }

  private void refused(String what, Class<? extends RuntimeException> due, RobotCell x, RobotCell twin, Calls call) {
    String got = thrown(x, call);
    hold(what + " threw " + got + ", due is " + due.getSimpleName(), got.equals(due.getSimpleName()));
    sameText(what + ": the object then", View.whole(x), View.whole(twin));
  }

  /** Demands no exception, and an object that is as if the call were not made. */
  void unchanged(String what, Calls before, Calls call) {
    RobotCell x = prepared(before);
    String got = thrown(x, call);
    hold(what + " threw " + got, got.equals(NOTHING));
    sameText(what + ": the object then", View.whole(x), View.whole(prepared(before)));
  }

  /** Demands that a text is refused by this exception, and an object that is as if nothing had been fed. */
  void textRefused(String text, Class<? extends RuntimeException> due, Calls before) {
    RobotCell x = prepared(before);
    x.perform();
    Calls.feed(x, text);
    String got = thrown(x, y -> y.perform());
    hold(text + " threw " + got + ", due is " + due.getSimpleName(), got.equals(due.getSimpleName()));
    sameText(text + ": the object then", View.whole(x), View.whole(emptied(before)));
  }

  /** Demands that a text is answered by this error position, and an object that is as if nothing had been fed. */
  void textWrong(String text, int position, Calls before) {
    RobotCell x = prepared(before);
    x.perform();
    same("perform of \"" + text + "\"", Calls.perform(x, text), -100 - position);
    sameText(text + ": the object then", View.whole(x), View.whole(emptied(before)));
  }

  /** Something can be taken back, something is saved and letters are fed, so that a loss of them would be seen. */
  private static RobotCell prepared(Calls before) {
    RobotCell x = new RobotCell();
    x.setReach(2, 255);
    x.save();
    before.on(x);
    Calls.feed(x, "i4");
    return x;
  }

  private static RobotCell made(Calls before) {
    RobotCell x = new RobotCell();
    before.on(x);
    return x;
  }

  private static RobotCell emptied(Calls before) {
    RobotCell x = prepared(before);
    x.perform();
    return x;
  }

  private static String thrown(RobotCell x, Calls call) {
    try {
      call.on(x);
    } catch (RuntimeException e) {
      return e.getClass().getSimpleName();
    }
    return NOTHING;
  }

  private void hold(String complaint, boolean isRight) {
    asked++;
    if (!isRight) {
      wrong++;
      System.out.println("  " + sentence + complaint);
    }
  }
}
