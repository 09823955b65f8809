/**
 * What an object with a history answers, as one text. An object is used for at most 512 calls, so that new
 * ones with the same history are asked: 258 calls at most for the cell, 301 at most for the jobs.
 */
final class View {
  private static final int MORE_THAN_ALL_CHANGES = 7;

  /** An answer that may be an exception. */
  private interface Answer {
    Object get();
  }

  private View() {}

  /** All that can be asked without a change. */
  static String of(Calls history) {
    StringBuilder text = new StringBuilder();
    addCell(text, history.made());
    addJobs(text, history.made());
    return text.toString();
  }

  /** All that an object holds: what can be taken back, what is saved and the letters, too. */
  static String whole(Calls history) {
    StringBuilder text = new StringBuilder(of(history));
    RobotCell undone = history.made();
    Calls past = history;
    for (int i = 0; i < MORE_THAN_ALL_CHANGES; i++) {
      past = past.then(Calls.tried(x -> x.undo()));
      text.append("\n\nundo answers ").append(answer(() -> undone.undo())).append(of(past));
    }
    RobotCell restored = history.made();
    text.append("\n\nrestore answers ").append(answer(() -> restored.restore()));
    text.append(", undo then ").append(answer(() -> restored.undo()));
    text.append(of(history.then(Calls.tried(x -> x.restore()))));
    RobotCell fed = history.made();
    text.append("\n\nfeed answers ").append(answer(() -> fed.feed('5')));
    text.append(", perform then ").append(answer(() -> fed.perform()));
    text.append(of(history.then(Calls.tried(x -> x.feed('5'))).then(Calls.tried(x -> x.perform()))));
    return text.toString();
  }

  private static void addCell(StringBuilder text, RobotCell x) {
    for (int i = 0; i < 8; i++) {
      text.append("\nzone ").append(i).append(':');
      for (int what = 0; what < 5; what++) {
        text.append(' ').append(x.zone(i, what));
      }
    }
    for (int i = 0; i < 3; i++) {
      addBuffer(text, x, i);
    }
    for (int i = 0; i < 3; i++) {
      addArm(text, x, i);
    }
    int entries = x.account(7);
    for (int i = 0; i < entries; i++) {
      text.append("\nentry ").append(i).append(':');
      for (int what = 0; what < 4; what++) {
        text.append(' ').append(x.entry(i, what));
      }
    }
    text.append("\naccounts:");
    for (int what = 0; what < 10; what++) {
      text.append(' ').append(x.account(what));
    }
    text.append("\nsafe ").append(x.isSafe());
    text.append(", idle after ").append(answer(() -> x.idleAfter()));
    text.append(", mean duration ").append(answer(() -> x.meanDuration()));
  }

  private static void addBuffer(StringBuilder text, RobotCell x, int buffer) {
    text.append("\nbuffer ").append(buffer).append(':');
    for (int what = 0; what < 6; what++) {
      text.append(' ').append(x.buffer(buffer, what));
    }
    text.append(", parts");
    int parts = x.buffer(buffer, 1);
    for (int i = 0; i < parts; i++) {
      text.append(' ').append(x.part(buffer, i));
    }
  }

  private static void addArm(StringBuilder text, RobotCell x, int arm) {
    text.append("\narm ").append(arm).append(':');
    for (int what = 0; what < 10; what++) {
      text.append(' ').append(x.arm(arm, what));
    }
    text.append(", row");
    int jobs = x.arm(arm, 3);
    for (int i = 0; i < jobs; i++) {
      text.append(' ').append(x.waiting(arm, i));
    }
    text.append(", reason ").append(answer(() -> x.reason(arm, false)));
    text.append(", detail ").append(answer(() -> x.reason(arm, true)));
    text.append(", would be ").append(answer(() -> x.wouldBe(arm)));
    text.append(", use ").append(answer(() -> x.use(arm)));
  }

  private static void addJobs(StringBuilder text, RobotCell x) {
    int jobs = x.account(1);
    for (int i = 0; i < jobs; i++) {
      int job = i;
      text.append("\njob ").append(i).append(':');
      for (int what = 0; what < 9; what++) {
        text.append(' ').append(x.job(i, what));
      }
      text.append(", ends after ").append(answer(() -> x.endsAfter(job)));
    }
  }

  private static Object answer(Answer asked) {
    try {
      return asked.get();
    } catch (RuntimeException e) {
      return e.getClass().getSimpleName();
    }
  }
}
