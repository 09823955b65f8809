/** Long runs of calls, right and wrong ones, each answered by the program and by the model. */
public final class ModelTest {
  private static final int RUNS = 600;
  private static final int CALLS = 512; // the document says nothing of later ones
  private static final int METHODS = 27;
  private static int calls = 0;
  private static int wrong = 0;

  /** A call on one of the two. */
  private interface Answer {
    Object get();
  }

  /** Numbers that are the same in every run of this test. */
  private static final class Numbers {
    private long seed;

    Numbers(long seed) {
      this.seed = seed * 7919 + 17;
    }

    int below(int bound) {
      seed = seed * 6364136223846793005L + 1442695040888963407L;
      return (int) ((seed >>> 33) % bound);
    }

    /** Mostly a number of the range, sometimes one beside it or far from it. */
    int around(int least, int most) {
      int kind = below(40);
      int[] odd = {least - 1, most + 1, Integer.MIN_VALUE, Integer.MAX_VALUE};
      return kind < 4 ? odd[kind] : least + below(most - least + 1);
    }
  }

  public static void main(String[] args) {
    for (int run = 0; run < RUNS && wrong == 0; run++) {
      Numbers n = new Numbers(run);
      RobotCell x = new RobotCell();
      Model m = new Model();
      int busy = run % 5;
      calls = 0;
      while (calls < CALLS && wrong == 0) {
        if (busy > 0 && n.below(3) > 0) {
          change(run, n, x, m);
        } else {
          call(run, n.below(METHODS), n, x, m);
        }
      }
    }
    System.out.println(RUNS + " runs of " + CALLS + " calls, " + wrong + " wrong");
    if (wrong > 0) {
      System.exit(1);
    }
  }

  private static void change(int run, Numbers n, RobotCell x, Model m) {
    switch (n.below(8)) {
      case 0:
        giveRight(run, n, x, m);
        break;
      case 1:
        if (n.below(2) == 0) {
          text(run, n, x, m);
        }
        break;
      case 2:
        int buffer = n.below(3);
        same(run, "supply(" + buffer + ")", () -> x.supply(buffer), () -> m.supply(buffer));
        break;
      case 3:
        if (n.below(6) == 0) {
          int what = 23 + n.below(3);
          call(run, what, n, x, m);
        }
        break;
      default:
        int ticks = 1 + n.below(n.below(3) == 0 ? 6 : 2);
        same(run, "tick(" + ticks + ")", () -> x.tick(ticks), () -> m.tick(ticks));
    }
  }

  private static void giveRight(int run, Numbers n, RobotCell x, Model m) {
    int arm = n.below(3);
    int path = 0;
    int former = 0;
    int length = 1 + n.below(5);
    for (int i = 0; i < length; i++) {
      int digit = 1 + (former == 0 ? n.below(5) : (former + n.below(4)) % 5);
      former = digit;
      path = path * 10 + digit;
    }
    give(run, x, m, arm, path, 1 + n.below(3), n.below(10), n.below(5) - 2, n.below(6) - 3);
  }

  private static void give(int run, RobotCell x, Model m, int arm, int path, int work, int weight, int from,
      int to) {
    int source = Math.max(from, -1);
    int target = Math.max(to, -1);
    same(run, "give(" + arm + ", " + path + ", " + work + ", " + weight + ", " + source + ", " + target + ")",
        () -> x.give(arm, path, work, weight, source, target),
        () -> m.give(arm, path, work, weight, source, target));
  }

  private static void text(int run, Numbers n, RobotCell x, Model m) {
    StringBuilder text = new StringBuilder();
    int commands = 1 + n.below(4);
    for (int i = 0; i < commands; i++) {
      text.append(i > 0 ? ";" : "");
      switch (n.below(5)) {
        case 0:
          text.append("j").append(n.below(3)).append(":").append(n.below(3)).append(",").append(3 + n.below(5));
          text.append("/").append(1 + n.below(4)).append("w").append(n.below(10));
          text.append(n.below(3) == 0 ? "<" + n.below(3) : "").append(n.below(3) == 0 ? ">" + n.below(3) : "");
          break;
        case 1:
          text.append("i").append(n.below(4)).append(4 + n.below(4));
          break;
        case 2:
          text.append("i").append(n.below(n.below(9) == 0 ? 10 : 8)).append(n.below(8));
          break;
        default:
          text.append("t").append(n.below(20) == 0 ? 0 : 1 + n.below(4));
      }
    }
    if (n.below(4) == 0) {
      String signs = "jti:,/w<>;0123456789 x";
      text.setCharAt(n.below(text.length()), signs.charAt(n.below(signs.length())));
    }
    for (int i = 0; i < text.length() - n.below(10) / 9; i++) {
      char letter = text.charAt(i);
      same(run, "feed('" + letter + "')", () -> x.feed(letter), () -> m.feed(letter));
    }
    same(run, "perform() of " + text, () -> x.perform(), () -> m.perform());
  }

  private static void call(int run, int method, Numbers n, RobotCell x, Model m) {
    int arm = n.around(0, 2);
    int zone = n.around(0, 7);
    int i = n.around(0, 3);
    switch (method) {
      case 0: {
        int other = n.around(0, 7);
        boolean isMade = n.below(2) == 0;
        same(run, "setInterlock(" + zone + ", " + other + ", " + isMade + ")",
            () -> x.setInterlock(zone, other, isMade), () -> m.setInterlock(zone, other, isMade));
        break;
      }
      case 1: {
        int zones = n.around(0, 255) | (n.below(3) > 0 ? 31 : 0);
        same(run, "setReach(" + arm + ", " + zones + ")", () -> x.setReach(arm, zones),
            () -> m.setReach(arm, zones));
        break;
      }
      case 2: {
        int capacity = n.around(1, 4);
        same(run, "setCapacity(" + arm + ", " + capacity + ")", () -> x.setCapacity(arm, capacity),
            () -> m.setCapacity(arm, capacity));
        break;
      }
      case 3:
        same(run, "supply(" + arm + ")", () -> x.supply(arm), () -> m.supply(arm));
        break;
      case 4:
        give(run, x, m, arm, n.below(2) == 0 ? n.around(1, 99999) : n.around(1, 88), n.around(1, 9),
            n.around(0, 9), n.around(-1, 2), n.around(-1, 2));
        break;
      case 5:
        same(run, "withdraw(" + arm + ")", () -> x.withdraw(arm), () -> m.withdraw(arm));
        break;
      case 6: {
        int ticks = n.below(3) == 0 ? n.around(1, 50) : n.around(1, 5);
        same(run, "tick(" + ticks + ")", () -> x.tick(ticks), () -> m.tick(ticks));
        break;
      }
      case 7: {
        char letter = "jti:,/w<>;0123456789 x\u0661".charAt(n.below(23));
        same(run, "feed('" + letter + "')", () -> x.feed(letter), () -> m.feed(letter));
        break;
      }
      case 8:
        text(run, n, x, m);
        break;
      case 9:
        same(run, "part(" + arm + ", " + i + ")", () -> x.part(arm, i), () -> m.part(arm, i));
        break;
      case 10:
        same(run, "waiting(" + arm + ", " + i + ")", () -> x.waiting(arm, i), () -> m.waiting(arm, i));
        break;
      default:
        ask(run, method, n, x, m);
    }
  }

  private static void ask(int run, int method, Numbers n, RobotCell x, Model m) {
    int arm = n.around(0, 2);
    switch (method) {
      case 11:
      case 12:
        same(run, "reason(" + arm + ", false)", () -> x.reason(arm, false), () -> m.reason(arm, false));
        same(run, "reason(" + arm + ", true)", () -> x.reason(arm, true), () -> m.reason(arm, true));
        break;
      case 13:
      case 14:
        same(run, "wouldBe(" + arm + ")", () -> x.wouldBe(arm), () -> m.wouldBe(arm));
        break;
      case 15: {
        int job = n.around(0, 12);
        same(run, "endsAfter(" + job + ")", () -> x.endsAfter(job), () -> m.endsAfter(job));
        break;
      }
      case 16:
        same(run, "idleAfter()", () -> x.idleAfter(), () -> m.idleAfter());
        break;
      case 17:
        same(run, "isSafe()", () -> x.isSafe(), () -> m.isSafe());
        break;
      case 18:
        same(run, "use(" + arm + ")", () -> x.use(arm), () -> m.use(arm));
        break;
      case 19:
        same(run, "meanDuration()", () -> x.meanDuration(), () -> m.meanDuration());
        break;
      default:
        askTables(run, method, n, x, m);
    }
  }

  private static void askTables(int run, int method, Numbers n, RobotCell x, Model m) {
    int zone = n.around(0, 7);
    int arm = n.around(0, 2);
    int job = n.around(0, 29);
    int entry = n.around(0, 23);
    switch (method) {
      case 20:
        for (int what = -1; what <= 5; what++) {
          int w = what;
          same(run, "zone(" + zone + ", " + w + ")", () -> x.zone(zone, w), () -> m.zone(zone, w));
          same(run, "buffer(" + arm + ", " + w + ")", () -> x.buffer(arm, w), () -> m.buffer(arm, w));
        }
        break;
      case 21:
        for (int what = -1; what <= 10; what++) {
          int w = what;
          same(run, "arm(" + arm + ", " + w + ")", () -> x.arm(arm, w), () -> m.arm(arm, w));
          same(run, "account(" + w + ")", () -> x.account(w), () -> m.account(w));
        }
        break;
      case 22:
        for (int what = -1; what <= 9; what++) {
          int w = what;
          same(run, "job(" + job + ", " + w + ")", () -> x.job(job, w), () -> m.job(job, w));
          same(run, "entry(" + entry + ", " + w + ")", () -> x.entry(entry, w), () -> m.entry(entry, w));
        }
        break;
      case 23:
        same(run, "undo()", () -> x.undo(), () -> m.undo());
        break;
      case 24:
        same(run, "save()", () -> x.save(), () -> m.save());
        break;
      case 25:
        if (n.below(3) == 0) {
          same(run, "restore()", () -> x.restore(), () -> m.restore());
        }
        break;
      default:
        same(run, "perform()", () -> x.perform(), () -> m.perform());
    }
  }

  private static void same(int run, String what, Answer program, Answer model) {
    if (calls == CALLS) {
      return;
    }
    calls++;
    String got = textOf(program);
    String due = textOf(model);
    if (!got.equals(due)) {
      wrong++;
      System.out.println("run " + run + ": " + what + " answered " + got + ", due is " + due);
    }
  }

  private static String textOf(Answer answer) {
    try {
      return answer.get().toString();
    } catch (RuntimeException e) {
      return e.getClass().getSimpleName();
    }
  }
}
