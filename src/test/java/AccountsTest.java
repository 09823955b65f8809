/** Promises 21 to 23: accounts, use and mean duration. */
public final class AccountsTest {
  private static final Check CHECK = new Check();
  private static final Class<IndexOutOfBoundsException> INDEX = IndexOutOfBoundsException.class;
  private static final Class<IllegalArgumentException> ARGUMENT = IllegalArgumentException.class;
  private static final Class<ArithmeticException> ARITHMETIC = ArithmeticException.class;

  public static void main(String[] args) {
    account();
    use();
    meanDuration();
    CHECK.end();
  }

  private static void account() {
    RobotCell x = new RobotCell();
    x.setInterlock(0, 7, true);
    x.setInterlock(1, 6, true);
    x.setInterlock(1, 5, true);
    x.setCapacity(0, 4);
    x.supply(0);
    x.supply(0);
    x.supply(0);
    x.give(0, 3, 1, 0, 0, -1);
    x.give(0, 3, 1, 0, 0, 1);
    x.give(0, 3, 1, 0, -1, 1);
    x.give(1, 3, 9, 0, -1, -1);
    x.give(2, 4, 1, 0, -1, -1);
    x.withdraw(2);
    x.tick(6);
    // Arm 1 is refused in ticks 1 and 2 and starts in tick 3; arm 0 is refused in ticks 3 to 12.
    int[] due = {6, 5, 1, 1, 3, 2, 1, 3, 6, 3};
    for (int what = 0; what < 10; what++) {
      CHECK.same("account " + what, x.account(what), due[what]);
    }
    x.tick(20);
    int[] then = {26, 5, 4, 1, 4, 3, 1, 8, 12, 3};
    for (int what = 0; what < 10; what++) {
      CHECK.same("account then " + what, x.account(what), then[what]);
    }
    CHECK.throwing("what -1", ARGUMENT, () -> x.account(-1));
    CHECK.throwing("what 10", ARGUMENT, () -> x.account(10));
  }

  private static void use() {
    RobotCell x = new RobotCell();
    CHECK.throwing("no time", ARITHMETIC, () -> x.use(0));
    CHECK.throwing("no arm, no time", INDEX, () -> x.use(3));
    CHECK.throwing("arm -1", INDEX, () -> x.use(-1));
    x.tick(1);
    CHECK.sameNumber("idle", x.use(0), 0.0f);
    x.give(0, 1, 1, 0, -1, -1);
    x.tick(2);
    CHECK.sameNumber("one of three, as a float", x.use(0), 1.0f / 3.0f);
    x.give(0, 1, 9, 0, -1, -1);
    x.tick(4);
    CHECK.sameNumber("five of seven", x.use(0), 5.0f / 7.0f);
    CHECK.sameNumber("another arm", x.use(2), 0.0f);
    CHECK.throwing("arm 3", INDEX, () -> x.use(3));
  }

  private static void meanDuration() {
    RobotCell x = new RobotCell();
    CHECK.throwing("none has ended", ARITHMETIC, () -> x.meanDuration());
    x.give(0, 1, 1, 0, -1, -1);
    x.tick(1);
    CHECK.throwing("none has ended yet", ARITHMETIC, () -> x.meanDuration());
    x.tick(1);
    CHECK.sameNumber("one", x.meanDuration(), 1.0);
    x.give(1, 2, 2, 0, -1, -1);
    x.give(2, 3, 4, 0, -1, -1);
    x.tick(5);
    CHECK.sameNumber("three, as a double", x.meanDuration(), 7.0 / 3.0);
    x.give(0, 1, 9, 0, -1, -1);
    x.tick(3);
    CHECK.sameNumber("an active one does not count", x.meanDuration(), 7.0 / 3.0);
  }
}
