import java.util.function.IntUnaryOperator;

/** Compares answers with those that are due, prints what differs and counts it. */
final class Check {
  private String sentence = "";
  private int asked = 0;
  private int wrong = 0;

  /** Names the sentence that the next answers are for. */
  void about(Says says) {
    sentence = says.at() + ", \"" + says.text() + "\"\n    ";
  }

  int asked() {
    return asked;
  }

  int wrong() {
    return wrong;
  }

  void same(String what, long got, long due) {
    hold(what + " answered " + got + ", due is " + due, got == due);
  }

  void same(String what, boolean got, boolean due) {
    hold(what + " answered " + got + ", due is " + due, got == due);
  }

  void sameNumber(String what, double got, double due) {
    hold(what + " answered " + got + ", due is " + due, got == due);
  }

  void sameText(String what, String got, String due) {
    String[] gotLines = got.split("\n");
    String[] dueLines = due.split("\n");
    int line = 0;
    while (line < gotLines.length - 1 && line < dueLines.length - 1 && gotLines[line].equals(dueLines[line])) {
      line++;
    }
    hold(what + ", line " + line + ": " + gotLines[line] + "\n    due is " + dueLines[line], got.equals(due));
  }

  /** All answers of a row, for 0, 1 and so on. */
  void sameRow(String what, IntUnaryOperator answer, int... due) {
    for (int i = 0; i < due.length; i++) {
      same(what + ", " + i, answer.applyAsInt(i), due[i]);
    }
  }

  /** Demands exactly this exception, none of a class below it, and an object that is as if the call were not made. */
  void refused(String what, Class<? extends RuntimeException> due, Calls before, Calls call) {
    refusedThen(what, due, prepared(before), call);
  }

  /** The same for an object for which nothing was saved. */
  void refusedUnsaved(String what, Class<? extends RuntimeException> due, Calls before, Calls call) {
    refusedThen(what, due, before, call);
  }

  private void refusedThen(String what, Class<? extends RuntimeException> due, Calls history, Calls call) {
    String got = Calls.thrown(history.made(), call);
    hold(what + " threw " + got + ", due is " + due.getSimpleName(), got.equals(due.getSimpleName()));
    sameObjects(what, history.then(Calls.tried(call)), history);
  }

  /** Demands no exception, and an object that is as if the calls were not made. */
  void unchanged(String what, Calls before, Calls calls) {
    Calls history = prepared(before);
    String got = Calls.thrown(history.made(), calls);
    hold(what + " threw " + got, got.equals("nothing"));
    sameObjects(what, history.then(Calls.tried(calls)), history);
  }

  /** Demands that a text is refused by this exception, and an object that is as if nothing had been fed. */
  void textRefused(String text, Class<? extends RuntimeException> due, Calls before) {
    Calls history = emptied(before);
    Calls fed = history.then(x -> Calls.feed(x, text));
    String got = Calls.thrown(fed.made(), x -> x.perform());
    hold(text + " threw " + got + ", due is " + due.getSimpleName(), got.equals(due.getSimpleName()));
    sameObjects(text, fed.then(Calls.tried(x -> x.perform())), history);
  }

  /** Demands that a text is answered by this error position, and an object that is as if nothing had been fed. */
  void textWrong(String text, int position, Calls before) {
    Calls history = emptied(before);
    same("perform of \"" + text + "\"", Calls.perform(history.made(), text), -100 - position);
    sameObjects(text, history.then(x -> Calls.perform(x, text)), history);
  }

  /** Compares all that objects with these histories hold. */
  void sameObjects(String what, Calls got, Calls due) {
    sameText(what + ": the object then", View.whole(got), View.whole(due));
  }

  /** Something can be taken back, something is saved and letters are fed, so that a loss of them would be seen. */
  private static Calls prepared(Calls before) {
    Calls saved = x -> {
      x.setReach(2, 255);
      x.save();
    };
    return saved.then(before).then(x -> Calls.feed(x, "i4"));
  }

  private static Calls emptied(Calls before) {
    return prepared(before).then(x -> x.perform());
  }

  private void hold(String complaint, boolean isRight) {
    asked++;
    if (!isRight) {
      wrong++;
      System.out.println("  " + sentence + complaint);
    }
  }
}
