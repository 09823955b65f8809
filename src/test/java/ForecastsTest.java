import java.util.NoSuchElementException;

/** Forecasts: promises 17 and 18. */
public final class ForecastsTest {
  private static final Class<IndexOutOfBoundsException> INDEX = IndexOutOfBoundsException.class;
  private static final Class<NoSuchElementException> NO_SUCH = NoSuchElementException.class;

  public static void main(String[] args) {
    Sentences.run(ForecastsTest.class);
  }

  private static void nothing(RobotCell x) {}

  /** Jobs that hinder each other, parts that are moved, and one job that ends, one that is withdrawn. */
  private static void busyCell(RobotCell x) {
    x.setInterlock(0, 5, true);
    x.supply(0);
    x.give(2, 8, 1, 0, -1, -1);
    x.give(0, 1234, 2, 9, 0, 1);
    x.give(1, 4321, 1, 4, -1, 1);
    x.give(2, 56, 3, 0, -1, 2);
    x.give(2, 65, 3, 0, 2, -1);
    x.give(1, 7, 3, 0, 1, -1);
    x.give(0, 1, 1, 0, -1, -1);
    x.withdraw(0);
    x.tick(4);
  }

  /** Four jobs of one arm, which are done after 200 ticks. */
  private static void twoHundredTicks(RobotCell x) {
    for (int i = 0; i < 4; i++) {
      x.give(0, 18181, 9, 0, -1, -1);
    }
  }

  private static void twoHundredAndOneTicks(RobotCell x) {
    x.give(0, 1, 1, 0, -1, -1);
    twoHundredTicks(x);
    x.tick(1);
  }

  // ---- promise 17: endsAfter

  @Says(at = "Promise 17: endsAfter",
      text = "Returns after how many ticks a job will have ended, if nothing is done but ticks.")
  static void endsOfAllJobs(Check check) {
    RobotCell x = new RobotCell();
    busyCell(x);
    for (int job = 0; job < 7; job++) {
      if (x.job(job, 6) == 3) {
        continue;
      }
      int ticks = x.endsAfter(job);
      RobotCell y = new RobotCell();
      busyCell(y);
      for (int i = 1; i < ticks; i++) {
        y.tick(1);
      }
      check.same("ended before the last tick, job " + job, y.job(job, 6) == 2, ticks == 0);
      if (ticks > 0) {
        y.tick(1);
      }
      check.same("state of job " + job + " after its ticks", y.job(job, 6), 2);
    }
    check.unchanged("endsAfter", ForecastsTest::busyCell, y -> y.endsAfter(4));
    RobotCell z = new RobotCell();
    z.give(0, 12, 2, 4, -1, -1);
    z.give(0, 3, 1, 0, -1, -1);
    z.give(0, 4, 1, 0, -1, -1);
    check.sameRow("jobs of a row", j -> z.endsAfter(j), 7, 9, 11);
    z.tick(6);
    check.sameRow("jobs of a row after six ticks", j -> z.endsAfter(j), 1, 3, 5);
  }

  @Says(at = "Promise 17: endsAfter", text = "Returns the number of ticks, 0 if it has ended.")
  static void endsOfEndedJobs(Check check) {
    RobotCell x = new RobotCell();
    x.give(0, 1, 1, 0, -1, -1);
    x.tick(1);
    check.same("active", x.endsAfter(0), 1);
    x.tick(1);
    check.same("ended", x.endsAfter(0), 0);
    x.tick(50);
    check.same("ended long ago", x.endsAfter(0), 0);
    check.unchanged("endsAfter", ForecastsTest::busyCell, y -> y.endsAfter(0));
  }

  @Says(at = "Promise 17: endsAfter", text = "Throws `IndexOutOfBoundsException` if there is no such job")
  static void endsOfNoJob(Check check) {
    check.refused("no jobs", INDEX, ForecastsTest::nothing, x -> x.endsAfter(0));
    for (int job : new int[] {-1, 7, 8, 30, Integer.MIN_VALUE, Integer.MAX_VALUE}) {
      check.refused("job " + job + " of seven", INDEX, ForecastsTest::busyCell, x -> x.endsAfter(job));
    }
  }

  @Says(at = "Promise 17: endsAfter",
      text = "Throws `NoSuchElementException` if it was withdrawn, or will not have ended after 200 ticks")
  static void endsNotInTime(Check check) {
    check.refused("withdrawn", NO_SUCH, ForecastsTest::busyCell, x -> x.endsAfter(6));
    RobotCell x = new RobotCell();
    twoHundredTicks(x);
    check.sameRow("200 ticks", j -> x.endsAfter(j), 50, 100, 150, 200);
    check.refused("201 ticks", NO_SUCH, ForecastsTest::twoHundredAndOneTicks, y -> y.endsAfter(4));
    RobotCell z = new RobotCell();
    twoHundredAndOneTicks(z);
    z.tick(1);
    check.same("a tick later", z.endsAfter(4), 200);
    check.refused("there will be no part", NO_SUCH, y -> y.give(1, 5, 1, 0, 0, -1), y -> y.endsAfter(0));
    check.refused("there will be no room", NO_SUCH, y -> {
      y.setCapacity(1, 1);
      y.supply(1);
      y.give(1, 5, 1, 0, -1, 1);
    }, y -> y.endsAfter(0));
    check.refused("behind a job that will not be started", NO_SUCH, y -> {
      y.give(1, 5, 1, 0, 0, -1);
      y.give(1, 5, 1, 0, -1, -1);
    }, y -> y.endsAfter(1));
    check.refused("each arm waits for the other", NO_SUCH, y -> {
      y.give(0, 12, 3, 0, -1, -1);
      y.give(1, 43, 3, 0, -1, -1);
      y.tick(1);
      y.setInterlock(1, 3, true);
      y.setInterlock(0, 2, true);
    }, y -> y.endsAfter(0));
  }

  // ---- promise 18: idleAfter

  @Says(at = "Promise 18: idleAfter",
      text = "Returns after how many ticks all arms will be idle with empty rows for the first time, if nothing is done but"
          + " ticks.")
  static void idleForTheFirstTime(Check check) {
    RobotCell x = new RobotCell();
    busyCell(x);
    int ticks = x.idleAfter();
    for (int i = 0; i < ticks; i++) {
      int jobs = x.arm(0, 3) + x.arm(1, 3) + x.arm(2, 3);
      int states = x.arm(0, 1) + x.arm(1, 1) + x.arm(2, 1);
      check.same("not idle before, tick " + i, jobs + states > 0, true);
      check.same("ticks to go", x.idleAfter(), ticks - i);
      x.tick(1);
    }
    check.sameRow("rows then", a -> x.arm(a, 3), 0, 0, 0);
    check.sameRow("states then", a -> x.arm(a, 1), 0, 0, 0);
    check.unchanged("idleAfter", ForecastsTest::busyCell, y -> y.idleAfter());
    for (int i = 0; i < 3; i++) {
      RobotCell y = new RobotCell();
      y.give(i, 1, 1, 0, -1, -1);
      y.give(i, 1, 3, 0, -1, -1);
      check.same("two jobs of arm " + i, y.idleAfter(), 6);
      y.tick(2);
      check.same("idle with a row", y.idleAfter(), 4);
    }
  }

  @Says(at = "Promise 18: idleAfter", text = "Returns the number of ticks, 0 if this is so now.")
  static void idleNow(Check check) {
    RobotCell x = new RobotCell();
    check.same("a new object", x.idleAfter(), 0);
    x.give(0, 1, 1, 0, 0, -1);
    x.withdraw(0);
    check.same("all jobs are withdrawn", x.idleAfter(), 0);
    x.give(1, 1, 1, 0, -1, -1);
    check.same("a job in a row", x.idleAfter(), 2);
    x.tick(1);
    check.same("an active job", x.idleAfter(), 1);
    x.tick(1);
    check.same("all jobs have ended", x.idleAfter(), 0);
  }

  @Says(at = "Promise 18: idleAfter",
      text = "Throws `NoSuchElementException` if it will not be so after 200 ticks or fewer")
  static void idleNotInTime(Check check) {
    RobotCell x = new RobotCell();
    twoHundredTicks(x);
    check.same("200 ticks", x.idleAfter(), 200);
    check.refused("201 ticks", NO_SUCH, ForecastsTest::twoHundredAndOneTicks, y -> y.idleAfter());
    RobotCell z = new RobotCell();
    twoHundredAndOneTicks(z);
    z.tick(1);
    check.same("a tick later", z.idleAfter(), 200);
    check.refused("there will be no part", NO_SUCH, y -> {
      busyCell(y);
      y.give(2, 5, 1, 0, 2, -1);
    }, y -> y.idleAfter());
  }
}
