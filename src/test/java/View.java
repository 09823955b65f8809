/** What an object answers, as one text. */
final class View {
  /** An answer that may be an exception. */
  private interface Answer {
    Object get();
  }

  private View() {}

  /** All that can be asked without a change. */
  static String of(RobotCell x) {
    StringBuilder text = new StringBuilder();
    for (int i = 0; i < 8; i++) {
      text.append("\nzone ").append(i).append(':');
      for (int what = 0; what < 5; what++) {
        text.append(' ').append(x.zone(i, what));
      }
    }
    for (int i = 0; i < 3; i++) {
      text.append("\nbuffer ").append(i).append(':');
      for (int what = 0; what < 6; what++) {
        text.append(' ').append(x.buffer(i, what));
      }
      text.append(", parts");
      for (int k = 0; k < x.buffer(i, 1); k++) {
        text.append(' ').append(x.part(i, k));
      }
    }
    for (int i = 0; i < 3; i++) {
      addArm(text, x, i);
    }
    for (int i = 0; i < x.account(1); i++) {
      int job = i;
      text.append("\njob ").append(i).append(':');
      for (int what = 0; what < 9; what++) {
        text.append(' ').append(x.job(i, what));
      }
      text.append(", ends after ").append(answer(() -> x.endsAfter(job)));
    }
    for (int i = 0; i < x.account(7); i++) {
      text.append("\nentry ").append(i).append(':');
      for (int what = 0; what < 4; what++) {
        text.append(' ').append(x.entry(i, what));
      }
    }
    text.append("\naccounts:");
    for (int what = 0; what < 10; what++) {
      text.append(' ').append(x.account(what));
    }
    text.append("\nsafe ").append(x.isSafe());
    text.append(", idle after ").append(answer(() -> x.idleAfter()));
    text.append(", mean duration ").append(answer(() -> x.meanDuration()));
    return text.toString();
  }

  /** All that an object holds: what can be taken back, what is saved and the letters, too. The object is used up. */
  static String whole(RobotCell x) {
    StringBuilder text = new StringBuilder(of(x));
    for (int i = 0; i < 8; i++) {
      text.append("\n\nundo answers ").append(answer(() -> x.undo())).append(of(x));
    }
    text.append("\n\nrestore answers ").append(answer(() -> x.restore())).append(of(x));
    text.append("\n\nfeed answers ").append(answer(() -> x.feed('5')));
    text.append("\nperform answers ").append(answer(() -> x.perform())).append(of(x));
    return text.toString();
  }

  private static void addArm(StringBuilder text, RobotCell x, int arm) {
    text.append("\narm ").append(arm).append(':');
    for (int what = 0; what < 10; what++) {
      text.append(' ').append(x.arm(arm, what));
    }
    text.append(", row");
    for (int k = 0; k < x.arm(arm, 3); k++) {
      text.append(' ').append(x.waiting(arm, k));
    }
    text.append(", reason ").append(answer(() -> x.reason(arm, false)));
    text.append(", detail ").append(answer(() -> x.reason(arm, true)));
    text.append(", would be ").append(answer(() -> x.wouldBe(arm)));
    text.append(", use ").append(answer(() -> x.use(arm)));
  }

  private static Object answer(Answer asked) {
    try {
      return asked.get();
    } catch (RuntimeException e) {
      return e.getClass().getSimpleName();
    }
  }
}
