import java.util.NoSuchElementException;

/** Jobs, arms and rows: the paragraph on jobs and promises 9 to 13. */
public final class JobsTest {
  private static final Class<IndexOutOfBoundsException> INDEX = IndexOutOfBoundsException.class;
  private static final Class<IllegalArgumentException> ARGUMENT = IllegalArgumentException.class;
  private static final Class<IllegalStateException> STATE = IllegalStateException.class;
  private static final Class<UnsupportedOperationException> REACH = UnsupportedOperationException.class;
  private static final Class<NoSuchElementException> NO_SUCH = NoSuchElementException.class;
  private static final int[] NO_ARMS = {-1, 3, 4, Integer.MIN_VALUE, Integer.MAX_VALUE};
  private static final int[] NO_BUFFERS = {-2, 3, 4, Integer.MIN_VALUE, Integer.MAX_VALUE};

  public static void main(String[] args) {
    Sentences.run(JobsTest.class);
  }

  private static void nothing(RobotCell x) {}

  private static void thirtyJobs(RobotCell x) {
    for (int i = 0; i < 30; i++) {
      x.give(i % 3, 1 + i % 8, 1, 0, -1, -1);
    }
  }

  /** Arm 0 works, arm 1 waits for its zone, arm 2 is idle with a row. */
  private static void busyArms(RobotCell x) {
    x.give(0, 2, 9, 0, -1, -1);
    x.give(1, 12, 1, 0, -1, -1);
    x.give(2, 2, 1, 0, -1, -1);
    x.give(2, 3, 1, 0, -1, -1);
    x.tick(3);
  }

  // ---- the description

  @Says(at = "Description, Jobs",
      text = "There are at most 30 jobs in all, numbered from 0 in the order in which they are given.")
  static void thirtyJobsInAll(Check check) {
    RobotCell x = new RobotCell();
    for (int i = 0; i < 30; i++) {
      check.same("number of a job", x.give(i % 3, 1 + i % 8, 1, 0, -1, -1), i);
    }
    check.refused("a job more", STATE, JobsTest::thirtyJobs, y -> y.give(0, 1, 1, 0, -1, -1));
    check.same("jobs", x.account(1), 30);
    check.same("the last one", x.waiting(2, 9), 29);
    x.tick(50);
    check.same("all of them end", x.account(2), 30);
  }

  @Says(at = "Description, Jobs",
      text = "a path of 1 to 5 zones, of which any two successive ones are different")
  static void pathsOfOneToFiveZones(Check check) {
    int[] right = {1, 8, 12, 21, 121, 1212, 12121, 87878, 12345, 81818};
    for (int i = 0; i < right.length; i++) {
      RobotCell x = new RobotCell();
      check.same("path " + right[i], x.give(0, right[i], 1, 0, -1, -1), 0);
      check.same("the path", x.job(0, 1), right[i]);
    }
    int[] wrong = {0, 11, 88, 112, 122, 1123, 1223, 1233, 11234, 12234, 12334, 12344, 88888, 121212, 123456};
    for (int path : wrong) {
      check.refused("path " + path, ARGUMENT, JobsTest::nothing, x -> x.give(0, path, 1, 0, -1, -1));
    }
  }

  @Says(at = "Description, Jobs",
      text = "a work from 1 to 9, which is the number of ticks for each of its zones")
  static void ticksForEachZone(Check check) {
    for (int work = 1; work <= 9; work++) {
      RobotCell x = new RobotCell();
      x.give(0, 135, work, 0, -1, -1);
      check.same("three zones and two moves, work " + work, x.endsAfter(0), 1 + 3 * work + 2);
    }
    check.refused("work 0", ARGUMENT, JobsTest::nothing, x -> x.give(0, 135, 0, 0, -1, -1));
    check.refused("work 10", ARGUMENT, JobsTest::nothing, x -> x.give(0, 135, 10, 0, -1, -1));
  }

  @Says(at = "Description, Jobs",
      text = "a weight from 0 to 9; a source, which is a buffer or none; and a target, which is a buffer or none.")
  static void weightsAndBuffers(Check check) {
    RobotCell x = new RobotCell();
    for (int weight = 0; weight <= 9; weight++) {
      x.give(0, 1, 1, weight, weight % 4 - 1, 2 - weight % 4);
    }
    check.sameRow("weights", j -> x.job(j, 3), 0, 1, 2, 3, 4, 5, 6, 7, 8, 9);
    check.sameRow("sources", j -> x.job(j, 4), -1, 0, 1, 2, -1);
    check.sameRow("targets", j -> x.job(j, 5), 2, 1, 0, -1, 2);
  }

  @Says(at = "Description, Jobs", text = "Its zones are in the reach of its arm when it is given.")
  static void reachWhenItIsGiven(Check check) {
    RobotCell x = new RobotCell();
    x.give(0, 12, 1, 0, -1, -1);
    x.setReach(0, 2);
    check.refused("the same job now", REACH, y -> y.setReach(0, 2), y -> y.give(0, 12, 1, 0, -1, -1));
    check.same("a job in the reach", x.give(0, 2, 1, 0, -1, -1), 1);
    x.setReach(0, 0);
    check.same("both end", x.tick(20), 2);
  }

  // ---- promise 9: give

  @Says(at = "Promise 9: give", text = "Gives a job to an arm, as the last one of its row.")
  static void lastOfTheRow(Check check) {
    RobotCell x = new RobotCell();
    x.give(1, 1, 1, 0, -1, -1);
    x.give(0, 2, 1, 0, -1, -1);
    x.give(1, 3, 1, 0, -1, -1);
    x.tick(1);
    x.give(1, 4, 1, 0, -1, -1);
    check.sameRow("the row", i -> x.waiting(1, i), 2, 3);
    check.sameRow("lengths of rows", a -> x.arm(a, 3), 0, 2, 0);
    check.same("state of the job", x.job(3, 6), 0);
  }

  @Says(at = "Promise 9: give",
      text = "`path`: the zones of the path in order, as decimal digits from the most significant one on, each of"
          + " which is the number of a zone plus 1, as 123 for the zones 0, 1 and 2")
  static void digitsOfPaths(Check check) {
    RobotCell x = new RobotCell();
    x.give(0, 83527, 1, 0, -1, -1);
    int[] zones = {7, 2, 4, 1, 6};
    for (int i = 0; i < 5; i++) {
      x.tick(i == 0 ? 1 : 2);
      check.same("zone " + i, x.arm(0, 4), zones[i]);
      check.same("works", x.arm(0, 1), 1);
    }
    check.same("it ends", x.tick(1), 1);
    for (int path : new int[] {9, 19, 91, 10, 100, 102, 1203, 10234, 12304, 109, 12390, 90123}) {
      check.refused("path " + path, ARGUMENT, JobsTest::nothing, y -> y.give(0, path, 1, 0, -1, -1));
    }
  }

  @Says(at = "Promise 9: give", text = "`source`: the source, or -1 for none")
  static void sources(Check check) {
    RobotCell x = new RobotCell();
    for (int source = -1; source < 3; source++) {
      int job = x.give(0, 1, 1, 0, source, -1);
      check.same("source", x.job(job, 4), source);
      check.same("start with source " + source, x.wouldBe(0), source < 0 ? 0 : 1);
      x.withdraw(0);
    }
  }

  @Says(at = "Promise 9: give", text = "`target`: the target, or -1 for none")
  static void targets(Check check) {
    RobotCell x = new RobotCell();
    for (int i = 0; i < 6; i++) {
      x.supply(i % 3);
    }
    for (int target = -1; target < 3; target++) {
      int job = x.give(0, 1, 1, 0, -1, target);
      check.same("target", x.job(job, 5), target);
      check.same("start with target " + target, x.wouldBe(0), target < 0 ? 0 : 2);
      x.withdraw(0);
    }
  }

  @Says(at = "Promise 9: give", text = "Returns the job.")
  static void numbersOfJobs(Check check) {
    RobotCell x = new RobotCell();
    check.same("first", x.give(2, 1, 1, 0, -1, -1), 0);
    check.same("second", x.give(0, 2, 1, 0, -1, -1), 1);
    x.withdraw(0);
    x.tick(5);
    check.same("third", x.give(0, 3, 1, 0, -1, -1), 2);
    check.sameRow("arms", j -> x.job(j, 0), 2, 0, 0);
  }

  @Says(at = "Promise 9: give",
      text = "Throws `IndexOutOfBoundsException` if there is no such arm, or the source or the target is neither -1"
          + " nor a buffer")
  static void giveWithoutArmOrBuffer(Check check) {
    for (int arm : NO_ARMS) {
      check.refused("arm " + arm, INDEX, JobsTest::busyArms, x -> x.give(arm, 1, 1, 0, -1, -1));
    }
    for (int buffer : NO_BUFFERS) {
      check.refused("source " + buffer, INDEX, JobsTest::busyArms, x -> x.give(0, 1, 1, 0, buffer, -1));
      check.refused("target " + buffer, INDEX, JobsTest::busyArms, x -> x.give(0, 1, 1, 0, -1, buffer));
    }
    RobotCell x = new RobotCell();
    check.same("arm 2, source 2, target 2", x.give(2, 1, 1, 0, 2, 2), 0);
    check.same("arm 0, source 0, target 0", x.give(0, 1, 1, 0, 0, 0), 1);
  }

  @Says(at = "Promise 9: give",
      text = "Throws `IllegalArgumentException` if the path is no path as described, or the work or the weight is out"
          + " of range")
  static void giveOutOfRange(Check check) {
    int[] paths = {-1, -12, 0, 9, 99999, 100000, 1000000, 111111, 987654321, Integer.MAX_VALUE, Integer.MIN_VALUE};
    for (int path : paths) {
      check.refused("path " + path, ARGUMENT, JobsTest::busyArms, x -> x.give(0, path, 1, 0, -1, -1));
    }
    for (int number : new int[] {-1, 10, Integer.MIN_VALUE, Integer.MAX_VALUE}) {
      check.refused("work " + number, ARGUMENT, JobsTest::busyArms, x -> x.give(0, 1, number, 0, -1, -1));
      check.refused("weight " + number, ARGUMENT, JobsTest::busyArms, x -> x.give(0, 1, 1, number, -1, -1));
    }
    check.refused("work 0", ARGUMENT, JobsTest::busyArms, x -> x.give(0, 1, 0, 0, -1, -1));
  }

  @Says(at = "Promise 9: give",
      text = "Throws `UnsupportedOperationException` if a zone of the path is not in the reach of the arm")
  static void giveOutOfReach(Check check) {
    Calls withoutZone2 = x -> x.setReach(0, 255 - 4);
    for (int path : new int[] {3, 31212, 13212, 12312, 12132, 12123, 1213, 312, 83, 38}) {
      check.refused("path " + path, REACH, withoutZone2, x -> x.give(0, path, 1, 0, -1, -1));
    }
    RobotCell x = new RobotCell();
    withoutZone2.on(x);
    check.same("another arm's reach", x.give(1, 3, 1, 0, -1, -1), 0);
    check.same("in the reach", x.give(0, 18421, 1, 0, -1, -1), 1);
  }

  @Says(at = "Promise 9: give", text = "Throws `IllegalStateException` if there have been 30 jobs")
  static void giveAThirtyFirstJob(Check check) {
    check.refused("30 in rows", STATE, JobsTest::thirtyJobs, x -> x.give(0, 1, 1, 0, -1, -1));
    check.refused("30, all of them ended", STATE, x -> {
      thirtyJobs(x);
      x.tick(50);
    }, x -> x.give(2, 1, 1, 0, -1, -1));
    check.refused("30, one of them withdrawn", STATE, x -> {
      thirtyJobs(x);
      x.withdraw(1);
    }, x -> x.give(1, 1, 1, 0, -1, -1));
    RobotCell x = new RobotCell();
    thirtyJobs(x);
    x.undo();
    check.same("the last one was taken back", x.give(1, 1, 1, 0, -1, -1), 29);
  }

  @Says(at = "Promise 9: give", text = "If several exceptions apply, the one named first is thrown.")
  static void giveWithSeveralFaults(Check check) {
    check.refused("no arm, no path", INDEX, JobsTest::nothing, x -> x.give(3, 0, 0, -1, -1, -1));
    check.refused("no source, no work", INDEX, JobsTest::nothing, x -> x.give(0, 1, 0, 0, 3, -1));
    check.refused("no target, no weight", INDEX, JobsTest::nothing, x -> x.give(0, 1, 1, 10, -1, -2));
    Calls full = x -> {
      thirtyJobs(x);
      x.setReach(1, 2);
    };
    check.refused("no arm, 30 jobs", INDEX, full, x -> x.give(-1, 1, 1, 0, -1, -1));
    check.refused("no weight, not in the reach", ARGUMENT, full, x -> x.give(1, 3, 1, 10, -1, -1));
    check.refused("no path, not in the reach", ARGUMENT, full, x -> x.give(1, 33, 1, 0, -1, -1));
    check.refused("no work, 30 jobs", ARGUMENT, full, x -> x.give(1, 2, 0, 0, -1, -1));
    check.refused("not in the reach, 30 jobs", REACH, full, x -> x.give(1, 3, 1, 0, -1, -1));
  }

  // ---- promise 10: withdraw

  @Says(at = "Promise 10: withdraw",
      text = "Takes back the job that is the last one of the row of an arm. Its number is not used again.")
  static void withdrawTheLast(Check check) {
    RobotCell x = new RobotCell();
    x.give(0, 1, 1, 0, -1, -1);
    x.give(1, 2, 1, 0, -1, -1);
    x.give(0, 3, 1, 0, -1, -1);
    check.same("the last one", x.withdraw(0), 2);
    check.same("its state", x.job(2, 6), 3);
    check.sameRow("the row", i -> x.waiting(0, i), 0);
    check.same("the next number", x.give(0, 4, 1, 0, -1, -1), 3);
    check.same("the last one then", x.withdraw(0), 3);
    check.same("the only one", x.withdraw(0), 0);
    check.same("nothing is left", x.arm(0, 3), 0);
    check.same("the next number then", x.give(0, 5, 1, 0, -1, -1), 4);
    x.tick(2);
    check.sameRow("states", j -> x.job(j, 6), 3, 2, 3, 3, 2);
  }

  @Says(at = "Promise 10: withdraw", text = "Returns the job.")
  static void withdrawnJob(Check check) {
    RobotCell x = new RobotCell();
    x.give(2, 1, 1, 0, -1, -1);
    x.give(0, 2, 1, 0, -1, -1);
    check.same("the job of arm 0", x.withdraw(0), 1);
    check.same("the job of arm 2", x.withdraw(2), 0);
  }

  @Says(at = "Promise 10: withdraw", text = "Throws `IndexOutOfBoundsException` if there is no such arm")
  static void withdrawOfNoArm(Check check) {
    for (int arm : NO_ARMS) {
      check.refused("arm " + arm, INDEX, JobsTest::busyArms, x -> x.withdraw(arm));
    }
  }

  @Says(at = "Promise 10: withdraw", text = "Throws `NoSuchElementException` if the row is empty")
  static void withdrawFromAnEmptyRow(Check check) {
    check.refused("a new object", NO_SUCH, JobsTest::nothing, x -> x.withdraw(0));
    check.refused("an active job is not in the row", NO_SUCH, JobsTest::busyArms, x -> x.withdraw(0));
    check.refused("all are withdrawn", NO_SUCH, x -> {
      x.give(1, 1, 1, 0, -1, -1);
      x.withdraw(1);
    }, x -> x.withdraw(1));
    check.refused("other arms have rows", NO_SUCH, x -> {
      x.give(0, 1, 1, 0, -1, -1);
      x.give(2, 1, 1, 0, -1, -1);
    }, x -> x.withdraw(1));
  }

  // ---- promise 11: job

  @Says(at = "Promise 11: job",
      text = "0 its arm; 1 its path, as for give; 2 its work; 3 its weight; 4 its source, 5 its target, each -1 for"
          + " none")
  static void givenNumbersOfJobs(Check check) {
    RobotCell x = new RobotCell();
    x.give(2, 4321, 3, 5, 1, 2);
    x.give(0, 8, 9, 0, -1, -1);
    check.sameRow("job 0", what -> x.job(0, what), 2, 4321, 3, 5, 1, 2);
    check.sameRow("job 1", what -> x.job(1, what), 0, 8, 9, 0, -1, -1);
    x.withdraw(2);
    check.sameRow("job 0, withdrawn", what -> x.job(0, what), 2, 4321, 3, 5, 1, 2);
  }

  @Says(at = "Promise 11: job",
      text = "6: 0 if it is in the row of its arm, 1 if it is active, 2 if it has ended, 3 if it was withdrawn; 7 the"
          + " time at which it was started, 8 the time at which it ended, each -1 if there is none")
  static void statesOfJobs(Check check) {
    RobotCell x = new RobotCell();
    x.tick(4);
    x.give(1, 2, 3, 0, -1, -1);
    x.give(1, 2, 3, 0, -1, -1);
    check.sameRow("in the row", k -> x.job(0, 6 + k), 0, -1, -1);
    x.tick(1);
    check.sameRow("active", k -> x.job(0, 6 + k), 1, 5, -1);
    x.tick(2);
    check.sameRow("active still", k -> x.job(0, 6 + k), 1, 5, -1);
    x.tick(1);
    check.sameRow("ended", k -> x.job(0, 6 + k), 2, 5, 8);
    x.withdraw(1);
    check.sameRow("withdrawn", k -> x.job(1, 6 + k), 3, -1, -1);
  }

  @Says(at = "Promise 11: job", text = "Throws `IndexOutOfBoundsException` if there is no such job")
  static void noSuchJob(Check check) {
    check.refused("none was given", INDEX, JobsTest::nothing, x -> x.job(0, 0));
    for (int job : new int[] {-1, 4, 5, 29, 30, Integer.MIN_VALUE, Integer.MAX_VALUE}) {
      check.refused("job " + job + " of four", INDEX, JobsTest::busyArms, x -> x.job(job, 6));
    }
    check.refused("job 30 of 30", INDEX, JobsTest::thirtyJobs, x -> x.job(30, 0));
    RobotCell x = new RobotCell();
    thirtyJobs(x);
    check.same("job 29", x.job(29, 0), 2);
    x.undo();
    check.refused("a job that was taken back", INDEX, y -> {
      y.give(0, 1, 1, 0, -1, -1);
      y.undo();
    }, y -> y.job(0, 0));
    check.same("the job before", x.job(28, 0), 1);
  }

  @Says(at = "Promise 11: job", text = "Throws `IllegalArgumentException` if what is out of range")
  static void jobWithoutWhat(Check check) {
    for (int what : new int[] {-1, 9, Integer.MIN_VALUE, Integer.MAX_VALUE}) {
      check.refused("what " + what, ARGUMENT, JobsTest::busyArms, x -> x.job(0, what));
    }
  }

  @Says(at = "Promise 11: job", text = "If several exceptions apply, the one named first is thrown.")
  static void jobWithSeveralFaults(Check check) {
    check.refused("no job, no what", INDEX, JobsTest::nothing, x -> x.job(0, 9));
  }

  // ---- promise 12: arm

  @Says(at = "Promise 12: arm",
      text = "0 its reach; 1 its state; 2 its active job, -1 for none; 3 the number of jobs in its row")
  static void jobsOfArms(Check check) {
    RobotCell x = new RobotCell();
    x.setReach(1, 7);
    check.sameRow("without jobs", what -> x.arm(1, what), 7, 0, -1, 0);
    x.give(0, 8, 1, 0, -1, -1);
    x.give(1, 1, 1, 0, -1, -1);
    x.give(1, 2, 1, 0, -1, -1);
    check.sameRow("idle with a row", what -> x.arm(1, what), 7, 0, -1, 2);
    x.tick(1);
    check.sameRow("active", what -> x.arm(1, what), 7, 1, 1, 1);
    x.tick(1);
    check.sameRow("idle again", what -> x.arm(1, what), 7, 0, -1, 1);
    x.tick(2);
    check.sameRow("at the end", what -> x.arm(1, what), 7, 0, -1, 0);
  }

  @Says(at = "Promise 12: arm",
      text = "4 the zone in which it works or waits or from which it moves, -1 if it is idle; 5 the number of ticks to"
          + " go if it works or moves, otherwise 0")
  static void zonesAndTicksOfArms(Check check) {
    RobotCell x = new RobotCell();
    x.give(1, 35, 2, 7, -1, -1);
    int[] zones = {-1, 2, 2, 2, 2, 4, 4, -1};
    int[] ticks = {0, 2, 1, 2, 1, 2, 1, 0};
    for (int time = 0; time < zones.length; time++) {
      check.same("zone at " + time, x.arm(1, 4), zones[time]);
      check.same("ticks to go at " + time, x.arm(1, 5), ticks[time]);
      x.tick(1);
    }
    RobotCell y = new RobotCell();
    busyArms(y);
    check.same("zone of an arm that waits", y.arm(1, 4), 0);
    check.same("ticks of an arm that waits", y.arm(1, 5), 0);
    check.same("zone of an idle arm with a row", y.arm(2, 4), -1);
    check.same("ticks of an idle arm with a row", y.arm(2, 5), 0);
  }

  @Says(at = "Promise 12: arm", text = "6 its patience in the next tick; 7 the set of zones that it holds")
  static void patienceAndZonesOfArms(Check check) {
    RobotCell x = new RobotCell();
    x.give(0, 2, 4, 0, -1, -1);
    x.give(1, 12, 1, 0, -1, -1);
    int[] patience = {0, 0, 1, 2, 3, 4, 0, 0, 0};
    int[] held = {0, 1, 1, 1, 1, 1, 3, 2, 0};
    for (int time = 0; time < patience.length; time++) {
      check.same("patience at " + time, x.arm(1, 6), patience[time]);
      check.same("zones at " + time, x.arm(1, 7), held[time]);
      x.tick(1);
    }
  }

  @Says(at = "Promise 12: arm",
      text = "8 the number of requests so far that were refused; 9 the number of ticks so far at whose end it was not"
          + " idle")
  static void refusalsAndBusyTicksOfArms(Check check) {
    RobotCell x = new RobotCell();
    x.give(1, 2, 4, 0, -1, -1);
    x.give(0, 12, 1, 0, -1, -1);
    x.give(2, 2, 1, 0, -1, -1);
    // Arm 2 is refused from tick 1 on, so that it comes before arm 0 when zone 1 is free, in tick 6.
    int[] refused = {0, 0, 1, 2, 3, 4, 5, 6, 6, 6, 6, 6};
    int[] busy = {0, 1, 2, 3, 4, 5, 6, 7, 8, 9, 9, 9};
    int[] refusedStart = {0, 1, 2, 3, 4, 5, 5, 5, 5, 5, 5, 5};
    for (int time = 0; time < refused.length; time++) {
      check.same("refused at " + time, x.arm(0, 8), refused[time]);
      check.same("busy at " + time, x.arm(0, 9), busy[time]);
      check.same("refused starts at " + time, x.arm(2, 8), refusedStart[time]);
      x.tick(1);
    }
    check.same("an arm that is refused a start is not busy", x.arm(2, 9), 1);
  }

  @Says(at = "Promise 12: arm", text = "Throws `IndexOutOfBoundsException` if there is no such arm")
  static void noSuchArm(Check check) {
    for (int arm : NO_ARMS) {
      for (int i = 0; i < 10; i++) {
        int what = i;
        check.refused("arm " + arm + ", " + i, INDEX, JobsTest::busyArms, x -> x.arm(arm, what));
      }
    }
  }

  @Says(at = "Promise 12: arm", text = "Throws `IllegalArgumentException` if what is out of range")
  static void armWithoutWhat(Check check) {
    for (int what : new int[] {-1, 10, Integer.MIN_VALUE, Integer.MAX_VALUE}) {
      check.refused("what " + what, ARGUMENT, JobsTest::busyArms, x -> x.arm(1, what));
    }
  }

  @Says(at = "Promise 12: arm", text = "If several exceptions apply, the one named first is thrown.")
  static void armWithSeveralFaults(Check check) {
    check.refused("no arm, no what", INDEX, JobsTest::nothing, x -> x.arm(3, 10));
  }

  // ---- promise 13: waiting

  @Says(at = "Promise 13: waiting", text = "`i`: its place in the row, from 0")
  static void placesInRows(Check check) {
    RobotCell x = new RobotCell();
    x.give(1, 1, 1, 0, -1, -1);
    x.give(0, 2, 1, 0, -1, -1);
    x.give(1, 3, 1, 0, -1, -1);
    x.give(1, 4, 1, 0, -1, -1);
    check.sameRow("the row of arm 1", i -> x.waiting(1, i), 0, 2, 3);
    check.sameRow("the row of arm 0", i -> x.waiting(0, i), 1);
    x.tick(1);
    check.sameRow("the row of arm 1 then", i -> x.waiting(1, i), 2, 3);
    RobotCell y = new RobotCell();
    for (int i = 0; i < 30; i++) {
      y.give(2, 1, 1, 0, -1, -1);
    }
    check.same("the longest row", y.waiting(2, 29), 29);
    y.tick(1);
    check.same("its last job moved up", y.waiting(2, 28), 29);
  }

  @Says(at = "Promise 13: waiting", text = "Throws `IndexOutOfBoundsException` if there is no such arm or place")
  static void noSuchPlaceInARow(Check check) {
    for (int arm : NO_ARMS) {
      check.refused("arm " + arm, INDEX, JobsTest::busyArms, x -> x.waiting(arm, 0));
    }
    for (int place : new int[] {-1, 2, 3, 30, Integer.MIN_VALUE, Integer.MAX_VALUE}) {
      check.refused("place " + place + " of two", INDEX, JobsTest::busyArms, x -> x.waiting(2, place));
    }
    check.refused("an empty row", INDEX, JobsTest::busyArms, x -> x.waiting(0, 0));
    check.refused("a job that was withdrawn", INDEX, x -> {
      busyArms(x);
      x.withdraw(2);
    }, x -> x.waiting(2, 1));
    check.refused("a job that was started", INDEX, x -> {
      x.give(0, 1, 1, 0, -1, -1);
      x.give(0, 2, 1, 0, -1, -1);
      x.tick(1);
    }, x -> x.waiting(0, 1));
  }
}
