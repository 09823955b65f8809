/** Accounts, use and mean duration: promises 21 to 23. */
public final class AccountsTest {
  private static final Class<IndexOutOfBoundsException> INDEX = IndexOutOfBoundsException.class;
  private static final Class<IllegalArgumentException> ARGUMENT = IllegalArgumentException.class;
  private static final Class<ArithmeticException> ARITHMETIC = ArithmeticException.class;
  private static final int[] NO_ARMS = {-1, 3, 4, Integer.MIN_VALUE, Integer.MAX_VALUE};

  public static void main(String[] args) {
    Sentences.run(AccountsTest.class);
  }

  private static void nothing(RobotCell x) {}

  private static void sixTicks(RobotCell x) {
    x.setInterlock(0, 7, true);
    x.setInterlock(1, 6, true);
    x.setInterlock(1, 5, true);
    x.setCapacity(0, 4);
    x.supply(0);
    x.supply(0);
    x.supply(0);
    x.give(0, 3, 1, 0, 0, -1);
    x.give(0, 3, 1, 0, 0, 1);
    x.give(0, 3, 1, 0, -1, 1);
    x.give(1, 3, 9, 0, -1, -1);
    x.give(2, 4, 1, 0, -1, -1);
    x.withdraw(2);
    x.tick(6);
  }

  // ---- promise 21: account

  @Says(at = "Promise 21: account",
      text = "0 the time; 1 the jobs that were given; 2 the jobs that ended; 3 the jobs that were withdrawn; 4 the new"
          + " parts; 5 the parts in all buffers; 6 the parts that are gone; 7 the entries of the log that are kept; 8 the"
          + " requests that were refused; 9 the interlocks")
  static void accounts(Check check) {
    RobotCell x = new RobotCell();
    check.sameRow("accounts at first", x::account, 0, 0, 0, 0, 0, 0, 0, 0, 0, 0);
    sixTicks(x);
    // Arm 1 is refused in ticks 1 and 2 and starts in tick 3; arm 0 is refused in ticks 3 to 12.
    check.sameRow("accounts", x::account, 6, 5, 1, 1, 3, 2, 1, 3, 6, 3);
    x.tick(20);
    check.sameRow("accounts at last", x::account, 26, 5, 4, 1, 4, 3, 1, 8, 12, 3);
    x.supply(2);
    x.setInterlock(6, 1, false);
    check.sameRow("with a part more and an interlock less", x::account, 26, 5, 4, 1, 5, 4, 1, 8, 12, 2);
    x.give(2, 4, 1, 0, -1, -1);
    x.give(1, 4, 1, 0, -1, -1);
    x.withdraw(2);
    x.withdraw(1);
    int[] due = {26, 7, 4, 3, 5, 4, 1, 8, 12, 2};
    check.sameRow("with jobs that were withdrawn", x::account, due);
    x.save();
    x.tick(1);
    x.undo();
    check.sameRow("behind undo", x::account, due);
    x.tick(1);
    x.restore();
    check.sameRow("behind restore", x::account, due);
    Calls.perform(x, "t1");
    check.sameRow("behind a text", x::account, 27, 7, 4, 3, 5, 4, 1, 8, 12, 2);
  }

  @Says(at = "Promise 21: account", text = "7 the entries of the log that are kept")
  static void keptEntries(Check check) {
    RobotCell x = new RobotCell();
    for (int i = 0; i < 13; i++) {
      x.give(0, 1, 1, 0, -1, -1);
    }
    x.tick(23);
    check.same("23 entries", x.account(7), 23);
    x.tick(1);
    check.same("24 entries", x.account(7), 24);
    x.tick(1);
    check.same("25 entries, of which 24 are kept", x.account(7), 24);
  }

  @Says(at = "Promise 21: account", text = "Throws `IllegalArgumentException` if what is out of range")
  static void accountWithoutWhat(Check check) {
    for (int what : new int[] {-1, 10, Integer.MIN_VALUE, Integer.MAX_VALUE}) {
      check.refused("what " + what, ARGUMENT, AccountsTest::sixTicks, x -> x.account(what));
    }
  }

  // ---- promise 22: use

  @Says(at = "Promise 22: use",
      text = "Returns the use of an arm: the number of ticks so far at whose end it was not idle, as a float, divided by"
          + " the time, as a float.")
  static void useOfArms(Check check) {
    RobotCell x = new RobotCell();
    x.tick(1);
    check.sameNumber("never", x.use(0), 0.0f);
    x.give(0, 1, 1, 0, -1, -1);
    x.tick(1);
    check.sameNumber("one of two", x.use(0), 0.5f);
    x.tick(1);
    check.sameNumber("one of three, as a float", x.use(0), 1.0f / 3.0f);
    x.give(0, 1, 9, 0, -1, -1);
    x.tick(4);
    check.sameNumber("five of seven", x.use(0), 5.0f / 7.0f);
    check.sameNumber("another arm", x.use(2), 0.0f);
    RobotCell y = new RobotCell();
    y.give(2, 12, 5, 0, -1, -1);
    y.give(1, 2, 9, 0, -1, -1);
    y.tick(8);
    check.sameNumber("it works or waits in each tick", y.use(2), 1.0f);
  }

  @Says(at = "Promise 22: use", text = "Throws `IndexOutOfBoundsException` if there is no such arm")
  static void useOfNoArm(Check check) {
    for (int arm : NO_ARMS) {
      check.refused("arm " + arm, INDEX, AccountsTest::sixTicks, x -> x.use(arm));
    }
  }

  @Says(at = "Promise 22: use", text = "Throws `ArithmeticException` if the time is 0")
  static void useWithoutTime(Check check) {
    for (int i = 0; i < 3; i++) {
      int arm = i;
      check.refused("arm " + arm, ARITHMETIC, x -> x.give(arm, 1, 1, 0, -1, -1), x -> x.use(arm));
    }
    check.refused("the only tick was taken back", ARITHMETIC, x -> {
      x.tick(1);
      x.undo();
    }, x -> x.use(0));
    RobotCell x = new RobotCell();
    x.tick(1);
    check.sameNumber("time 1", x.use(0), 0.0f);
  }

  @Says(at = "Promise 22: use", text = "If several exceptions apply, the one named first is thrown.")
  static void useWithSeveralFaults(Check check) {
    check.refused("no arm, no time", INDEX, AccountsTest::nothing, x -> x.use(3));
  }

  // ---- promise 23: meanDuration

  @Says(at = "Promise 23: meanDuration",
      text = "Returns the mean duration of the jobs that ended: the sum of the differences of the times at which they ended"
          + " and were started, as a double, divided by their number, as a double.")
  static void meanOfEndedJobs(Check check) {
    RobotCell x = new RobotCell();
    x.tick(3);
    x.give(0, 1, 1, 0, -1, -1);
    x.tick(2);
    check.sameNumber("one", x.meanDuration(), 1.0);
    x.give(1, 2, 2, 0, -1, -1);
    x.give(2, 3, 4, 0, -1, -1);
    x.tick(5);
    check.sameNumber("three, as a double", x.meanDuration(), 7.0 / 3.0);
    x.give(0, 1, 9, 0, -1, -1);
    x.give(1, 1, 9, 0, -1, -1);
    x.withdraw(1);
    x.tick(3);
    check.sameNumber("those that are active or withdrawn do not count", x.meanDuration(), 7.0 / 3.0);
    RobotCell y = new RobotCell();
    y.give(0, 1, 1, 0, 0, -1);
    y.tick(5);
    y.supply(0);
    y.tick(2);
    check.sameNumber("the time before the start does not count", y.meanDuration(), 1.0);
  }

  @Says(at = "Promise 23: meanDuration", text = "Throws `ArithmeticException` if no job has ended")
  static void meanOfNoJobs(Check check) {
    check.refused("a new object", ARITHMETIC, AccountsTest::nothing, x -> x.meanDuration());
    check.refused("active jobs", ARITHMETIC, x -> {
      x.give(0, 12, 1, 0, -1, -1);
      x.tick(3);
    }, x -> x.meanDuration());
    check.refused("a withdrawn job", ARITHMETIC, x -> {
      x.give(0, 12, 1, 0, -1, -1);
      x.withdraw(0);
    }, x -> x.meanDuration());
    check.refused("the end was taken back", ARITHMETIC, x -> {
      x.give(0, 1, 1, 0, -1, -1);
      x.tick(2);
      x.undo();
    }, x -> x.meanDuration());
  }
}
