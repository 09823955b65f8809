import java.util.NoSuchElementException;

/** Promises 9 to 13: giving and withdrawing jobs, what is told of jobs, arms and rows. */
public final class JobsTest {
  private static final Check CHECK = new Check();
  private static final Class<IndexOutOfBoundsException> INDEX = IndexOutOfBoundsException.class;
  private static final Class<IllegalArgumentException> ARGUMENT = IllegalArgumentException.class;
  private static final Class<IllegalStateException> STATE = IllegalStateException.class;
  private static final Class<UnsupportedOperationException> REACH = UnsupportedOperationException.class;
  private static final Class<NoSuchElementException> NO_SUCH = NoSuchElementException.class;

  public static void main(String[] args) {
    give();
    giveWrongPaths();
    giveThirty();
    withdraw();
    job();
    arm();
    armRefused();
    waiting();
    CHECK.end();
  }

  private static void give() {
    RobotCell x = new RobotCell();
    CHECK.same("first job", x.give(0, 1, 1, 0, -1, -1), 0);
    CHECK.same("longest job", x.give(2, 12121, 9, 9, 2, 2), 1);
    CHECK.same("highest path", x.give(2, 87878, 9, 9, 0, -1), 2);
    CHECK.same("row of arm 2", x.arm(2, 3), 2);
    CHECK.same("given", x.account(1), 3);
    CHECK.throwing("arm 3", INDEX, () -> x.give(3, 0, 0, -1, -1, -1));
    CHECK.throwing("arm -1", INDEX, () -> x.give(-1, 1, 1, 0, -1, -1));
    CHECK.throwing("source 3", INDEX, () -> x.give(0, 0, 1, 0, 3, -1));
    CHECK.throwing("source -2", INDEX, () -> x.give(0, 1, 1, 0, -2, -1));
    CHECK.throwing("target 3", INDEX, () -> x.give(0, 1, 0, 0, -1, 3));
    CHECK.throwing("target -2", INDEX, () -> x.give(0, 1, 1, 10, -1, -2));
    CHECK.throwing("work 0", ARGUMENT, () -> x.give(0, 1, 0, 0, -1, -1));
    CHECK.throwing("work 10", ARGUMENT, () -> x.give(0, 1, 10, 0, -1, -1));
    CHECK.throwing("weight -1", ARGUMENT, () -> x.give(0, 1, 1, -1, -1, -1));
    CHECK.throwing("weight 10", ARGUMENT, () -> x.give(0, 1, 1, 10, -1, -1));
    x.setReach(0, 255 - 4);
    CHECK.throwing("not in the reach", REACH, () -> x.give(0, 1213, 1, 0, -1, -1));
    CHECK.throwing("first one not in the reach", REACH, () -> x.give(0, 312, 1, 0, -1, -1));
    CHECK.throwing("the argument first", ARGUMENT, () -> x.give(0, 3, 1, 10, -1, -1));
    CHECK.throwing("the first of five", REACH, () -> x.give(0, 31212, 1, 0, -1, -1));
    CHECK.throwing("the last of five", REACH, () -> x.give(0, 12123, 1, 0, -1, -1));
    CHECK.same("another arm's reach", x.give(1, 3, 1, 0, -1, -1), 3);
    CHECK.same("in the reach", x.give(0, 1248, 1, 0, -1, -1), 4);
    CHECK.same("given then", x.account(1), 5);
  }

  private static void giveWrongPaths() {
    RobotCell x = new RobotCell();
    int[] wrong = {0, -1, 9, 10, 11, 122, 1123, 109, 901, 19, 91, 121212, 88888, 111111,
        Integer.MAX_VALUE, Integer.MIN_VALUE, 99999, 12344, 11234, 1002, -12};
    for (int path : wrong) {
      CHECK.throwing("path " + path, ARGUMENT, () -> x.give(0, path, 1, 0, -1, -1));
    }
    int[] right = {8, 12, 121, 2121, 87878, 12345};
    for (int i = 0; i < right.length; i++) {
      CHECK.same("path " + right[i], x.give(0, right[i], 1, 0, -1, -1), i);
    }
  }

  private static void giveThirty() {
    RobotCell x = new RobotCell();
    for (int i = 0; i < 29; i++) {
      CHECK.same("job " + i, x.give(0, 12, 1, 0, -1, -1), i);
    }
    x.withdraw(0);
    CHECK.same("job 29", x.give(0, 1, 1, 0, -1, -1), 29);
    CHECK.throwing("a job more", STATE, () -> x.give(1, 1, 1, 0, -1, -1));
    CHECK.throwing("the index first", INDEX, () -> x.give(3, 1, 1, 0, -1, -1));
    CHECK.throwing("the argument first", ARGUMENT, () -> x.give(1, 1, 0, 0, -1, -1));
    x.setReach(1, 2);
    CHECK.throwing("the reach first", REACH, () -> x.give(1, 1, 1, 0, -1, -1));
    CHECK.same("the row", x.arm(0, 3), 29);
    CHECK.same("the last one", x.waiting(0, 28), 29);
    CHECK.same("all of them end", x.idleAfter(), 28 * 4 + 2);
  }

  private static void withdraw() {
    RobotCell x = new RobotCell();
    CHECK.throwing("empty row", NO_SUCH, () -> x.withdraw(0));
    CHECK.throwing("no arm", INDEX, () -> x.withdraw(3));
    CHECK.throwing("arm -1", INDEX, () -> x.withdraw(-1));
    x.give(0, 1, 1, 0, -1, -1);
    x.give(1, 2, 1, 0, -1, -1);
    x.give(0, 3, 1, 0, -1, -1);
    CHECK.same("the last one", x.withdraw(0), 2);
    CHECK.same("its state", x.job(2, 6), 3);
    CHECK.same("its arm stays", x.job(2, 0), 0);
    CHECK.same("the row", x.arm(0, 3), 1);
    CHECK.same("its number is not used again", x.give(0, 4, 1, 0, -1, -1), 3);
    CHECK.same("withdrawn", x.account(3), 1);
    CHECK.same("given", x.account(1), 4);
    x.tick(1);
    CHECK.same("the job behind the active one", x.withdraw(0), 3);
    CHECK.throwing("an active job is not in the row", NO_SUCH, () -> x.withdraw(0));
    CHECK.same("withdrawn then", x.account(3), 2);
    x.tick(5);
    CHECK.same("ended", x.account(2), 2);
  }

  private static void job() {
    RobotCell x = new RobotCell();
    CHECK.throwing("no job yet", INDEX, () -> x.job(0, 0));
    x.supply(1);
    x.give(2, 4321, 3, 5, 1, 2);
    int[] waits = {2, 4321, 3, 5, 1, 2, 0, -1, -1};
    for (int what = 0; what < 9; what++) {
      CHECK.same("waiting job " + what, x.job(0, what), waits[what]);
    }
    x.tick(1);
    int[] active = {2, 4321, 3, 5, 1, 2, 1, 1, -1};
    for (int what = 0; what < 9; what++) {
      CHECK.same("active job " + what, x.job(0, what), active[what]);
    }
    x.tick(18);
    int[] ended = {2, 4321, 3, 5, 1, 2, 2, 1, 19};
    for (int what = 0; what < 9; what++) {
      CHECK.same("ended job " + what, x.job(0, what), ended[what]);
    }
    CHECK.throwing("job 1", INDEX, () -> x.job(1, 9));
    CHECK.throwing("job -1", INDEX, () -> x.job(-1, 0));
    CHECK.throwing("job 30", INDEX, () -> x.job(30, 0));
    CHECK.throwing("what 9", ARGUMENT, () -> x.job(0, 9));
    CHECK.throwing("what -1", ARGUMENT, () -> x.job(0, -1));
  }

  private static void arm() {
    RobotCell x = new RobotCell();
    x.give(1, 35, 2, 7, -1, -1);
    x.give(1, 1, 1, 0, -1, -1);
    int[][] due = {
      {255, 0, -1, 2, -1, 0, 0, 0, 0, 0},
      {255, 1, 0, 1, 2, 2, 0, 4, 0, 1},
      {255, 1, 0, 1, 2, 1, 0, 4, 0, 2},
      {255, 2, 0, 1, 2, 2, 0, 20, 0, 3},
      {255, 2, 0, 1, 2, 1, 0, 20, 0, 4},
      {255, 1, 0, 1, 4, 2, 0, 16, 0, 5},
      {255, 1, 0, 1, 4, 1, 0, 16, 0, 6},
      {255, 0, -1, 1, -1, 0, 0, 0, 0, 6},
      {255, 1, 1, 0, 0, 1, 0, 1, 0, 7},
      {255, 0, -1, 0, -1, 0, 0, 0, 0, 7},
      {255, 0, -1, 0, -1, 0, 0, 0, 0, 7},
    };
    for (int time = 0; time < due.length; time++) {
      for (int what = 0; what < 10; what++) {
        CHECK.same("arm at " + time + ", " + what, x.arm(1, what), due[time][what]);
      }
      x.tick(1);
    }
    CHECK.throwing("arm 3", INDEX, () -> x.arm(3, 10));
    CHECK.throwing("arm -1", INDEX, () -> x.arm(-1, 0));
    CHECK.throwing("what 10", ARGUMENT, () -> x.arm(0, 10));
    CHECK.throwing("what -1", ARGUMENT, () -> x.arm(0, -1));
  }

  private static void armRefused() {
    RobotCell x = new RobotCell();
    x.give(0, 2, 4, 0, -1, -1);
    x.give(1, 12, 1, 0, -1, -1);
    x.tick(2);
    CHECK.same("waits", x.arm(1, 1), 3);
    CHECK.same("in its zone", x.arm(1, 4), 0);
    CHECK.same("nothing to go", x.arm(1, 5), 0);
    CHECK.same("patience 1", x.arm(1, 6), 1);
    CHECK.same("holds its zone", x.arm(1, 7), 1);
    x.tick(1);
    CHECK.same("patience 2", x.arm(1, 6), 2);
    CHECK.same("refused twice", x.arm(1, 8), 2);
    CHECK.same("refused in all", x.account(8), 2);
    x.tick(2);
    CHECK.same("it asked before the zone was let go", x.arm(1, 1), 3);
    CHECK.same("busy while it waits", x.arm(1, 9), 5);
    x.tick(1);
    CHECK.same("moves", x.arm(1, 1), 2);
    CHECK.same("patience 0", x.arm(1, 6), 0);
    CHECK.same("refused four times", x.arm(1, 8), 4);
  }

  private static void waiting() {
    RobotCell x = new RobotCell();
    x.give(1, 1, 1, 0, -1, -1);
    x.give(0, 2, 1, 0, -1, -1);
    x.give(1, 3, 1, 0, -1, -1);
    x.give(1, 4, 1, 0, -1, -1);
    CHECK.same("first", x.waiting(1, 0), 0);
    CHECK.same("second", x.waiting(1, 1), 2);
    CHECK.same("third", x.waiting(1, 2), 3);
    x.tick(1);
    CHECK.same("first then", x.waiting(1, 0), 2);
    CHECK.same("second then", x.waiting(1, 1), 3);
    CHECK.throwing("no such place", INDEX, () -> x.waiting(1, 2));
    CHECK.throwing("place -1", INDEX, () -> x.waiting(1, -1));
    CHECK.throwing("empty row", INDEX, () -> x.waiting(0, 0));
    CHECK.throwing("arm 3", INDEX, () -> x.waiting(3, 0));
    CHECK.throwing("arm -1", INDEX, () -> x.waiting(-1, 0));
  }
}
