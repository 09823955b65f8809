import java.util.NoSuchElementException;

/** Requests and safety: those paragraphs and promises 15, 16 and 19. */
public final class RequestsTest {
  private static final Class<IndexOutOfBoundsException> INDEX = IndexOutOfBoundsException.class;
  private static final Class<NoSuchElementException> NO_SUCH = NoSuchElementException.class;
  private static final int[] NO_ARMS = {-1, 3, 4, Integer.MIN_VALUE, Integer.MAX_VALUE};
  private static final int GRANTED = 0;
  private static final int NO_PART = 1;
  private static final int NO_ROOM = 2;
  private static final int CONFLICT = 3;
  private static final int UNSAFE = 4;

  public static void main(String[] args) {
    Sentences.run(RequestsTest.class);
  }

  private static void nothing(RobotCell x) {}

  /** Arm 0 is in zone 0 on its way to zone 1, arm 1 wants to go the other way and is refused. */
  private static void oppositeWays(RobotCell x) {
    x.give(0, 12, 9, 0, -1, -1);
    x.give(1, 21, 1, 0, -1, -1);
    x.tick(3);
  }

  private static void refusedFor(Check check, RobotCell x, int arm, int reason, int detail) {
    check.same("what would be", x.wouldBe(arm), reason);
    x.tick(1);
    check.same("reason", x.reason(arm, false), reason);
    check.same("detail", x.reason(arm, true), detail);
  }

  // ---- requests

  @Says(at = "Description, Requests",
      text = "A request is refused for the first of these reasons that applies; the detail is given behind it:")
  static void firstReason(Check check) {
    RobotCell x = new RobotCell();
    x.setCapacity(1, 1);
    x.supply(1);
    x.give(0, 2, 9, 0, -1, -1);
    x.give(1, 43, 9, 0, -1, -1);
    x.tick(1);
    x.setInterlock(0, 1, true);
    x.give(2, 134, 1, 0, 2, 1);
    refusedFor(check, x, 2, NO_PART, 2);
    x.supply(2);
    refusedFor(check, x, 2, NO_ROOM, 1);
    x.setCapacity(1, 2);
    refusedFor(check, x, 2, CONFLICT, 0);
    x.setInterlock(0, 1, false);
    x.setInterlock(0, 2, true);
    refusedFor(check, x, 2, UNSAFE, 1);
    x.setInterlock(0, 2, false);
    check.same("granted", x.wouldBe(2), GRANTED);
    x.tick(1);
    check.same("started", x.arm(2, 1), 1);
  }

  @Says(at = "Description, Requests",
      text = "1 (only for a start): there is a source, and it has no part to give; the source.")
  static void noPartToGive(Check check) {
    for (int source = 0; source < 3; source++) {
      RobotCell x = new RobotCell();
      x.give(1, 12, 1, 0, source, -1);
      refusedFor(check, x, 1, NO_PART, source);
      x.supply((source + 1) % 3);
      refusedFor(check, x, 1, NO_PART, source);
      x.supply(source);
      x.give(0, 7, 9, 0, source, -1);
      x.tick(1);
      check.same("patience counts: arm 1 took the only part", x.arm(1, 1), 1);
      check.same("arm 0 is refused", x.reason(0, true), source);
      x.tick(1);
      check.same("the next zone asks for no part", x.arm(1, 1), 2);
    }
    RobotCell y = new RobotCell();
    y.give(0, 1, 1, 0, -1, -1);
    check.same("without a source", y.wouldBe(0), GRANTED);
  }

  @Says(at = "Description, Requests",
      text = "2 (only for a start): there is a target, and it has no room; the target.")
  static void noRoom(Check check) {
    for (int target = 0; target < 3; target++) {
      RobotCell x = new RobotCell();
      x.supply(target);
      x.supply(target);
      x.give(1, 12, 1, 0, -1, target);
      refusedFor(check, x, 1, NO_ROOM, target);
      x.setCapacity(target, 3);
      x.give(0, 7, 9, 0, -1, target);
      x.tick(1);
      check.same("patience counts: arm 1 took the only place", x.arm(1, 1), 1);
      check.same("arm 0 is refused", x.reason(0, true), target);
      x.tick(1);
      check.same("the next zone asks for no place", x.arm(1, 1), 2);
    }
    RobotCell y = new RobotCell();
    y.supply(0);
    y.supply(0);
    y.give(0, 1, 1, 0, 0, 0);
    check.same("the part that is to leave still takes its place", y.wouldBe(0), NO_ROOM);
  }

  @Says(at = "Description, Requests",
      text = "3: another arm holds a zone that conflicts with the requested one; the lowest such arm.")
  static void conflicts(Check check) {
    RobotCell x = new RobotCell();
    x.give(0, 1, 9, 0, -1, -1);
    x.give(1, 3, 9, 0, -1, -1);
    x.tick(1);
    x.setInterlock(4, 2, true);
    x.setInterlock(0, 4, true);
    x.give(2, 5, 1, 0, -1, -1);
    refusedFor(check, x, 2, CONFLICT, 0);
    x.setInterlock(0, 4, false);
    refusedFor(check, x, 2, CONFLICT, 1);
    x.setInterlock(2, 4, false);
    check.same("without interlocks", x.wouldBe(2), GRANTED);
    x.withdraw(2);
    x.give(2, 3, 1, 0, -1, -1);
    refusedFor(check, x, 2, CONFLICT, 1);
    RobotCell y = new RobotCell();
    y.give(2, 12, 1, 0, -1, -1);
    y.setInterlock(0, 1, true);
    y.tick(1);
    check.same("the zone that it holds itself", y.wouldBe(2), GRANTED);
    y.tick(1);
    check.same("moves", y.arm(2, 1), 2);
    y.give(0, 1, 1, 0, -1, -1);
    refusedFor(check, y, 0, CONFLICT, 2);
  }

  @Says(at = "Description, Requests",
      text = "4: it would not be safe; the lowest arm with an active job that could not finish.")
  static void unsafe(Check check) {
    RobotCell x = new RobotCell();
    x.give(0, 12, 9, 0, -1, -1);
    x.tick(1);
    x.give(1, 21, 1, 0, -1, -1);
    refusedFor(check, x, 1, UNSAFE, 0);
    RobotCell y = new RobotCell();
    y.give(0, 7, 9, 0, -1, -1);
    y.give(1, 12, 9, 0, -1, -1);
    y.tick(1);
    y.give(2, 21, 1, 0, -1, -1);
    refusedFor(check, y, 2, UNSAFE, 1);
    RobotCell z = new RobotCell();
    z.give(2, 12, 9, 0, -1, -1);
    z.tick(1);
    z.give(1, 21, 1, 0, -1, -1);
    refusedFor(check, z, 1, UNSAFE, 1);
    check.same("an idle arm without a job", z.arm(0, 1), 0);
    RobotCell w = new RobotCell();
    w.give(1, 12, 9, 0, -1, -1);
    w.give(2, 7, 9, 0, -1, -1);
    w.tick(1);
    w.give(0, 21, 1, 0, -1, -1);
    refusedFor(check, w, 0, UNSAFE, 0);
  }

  @Says(at = "Description, Requests",
      text = "Otherwise it is granted. A request for a start asks for the first zone of the path.")
  static void firstZone(Check check) {
    RobotCell x = new RobotCell();
    x.give(0, 2, 9, 0, -1, -1);
    x.tick(1);
    x.give(1, 12, 1, 0, -1, -1);
    check.same("only the second zone is held", x.wouldBe(1), GRANTED);
    x.give(2, 21, 1, 0, -1, -1);
    check.same("the first zone is held", x.wouldBe(2), CONFLICT);
    x.tick(1);
    check.sameRow("states", a -> x.arm(a, 1), 1, 1, 0);
  }

  // ---- safety

  @Says(at = "Description, Safety",
      text = "To find whether a request is safe, suppose that the arm holds the requested zone, too, and has this job as"
          + " its active one.")
  static void supposed(Check check) {
    RobotCell x = new RobotCell();
    x.give(0, 123, 2, 0, -1, -1);
    x.give(1, 67, 9, 0, -1, -1);
    x.tick(1);
    x.setInterlock(2, 5, true);
    check.same("arm 1 finishes first", x.wouldBe(0), GRANTED);
    x.setInterlock(6, 0, true);
    check.same("arm 1 needs what arm 0 goes on to hold", x.wouldBe(0), UNSAFE);
    RobotCell y = new RobotCell();
    y.give(0, 12, 9, 0, -1, -1);
    y.tick(1);
    y.give(1, 2, 1, 0, -1, -1);
    check.same("the job of arm 1 would end", y.wouldBe(1), GRANTED);
    y.withdraw(1);
    y.give(1, 21, 1, 0, -1, -1);
    check.same("its job comes to 0, which arm 0 holds", y.wouldBe(1), UNSAFE);
    y.withdraw(1);
    y.give(1, 31, 1, 0, -1, -1);
    check.same("arm 0 does not need 2", y.wouldBe(1), GRANTED);
  }

  @Says(at = "Description, Safety",
      text = "The arms with an active job, this one included, are then gone through again and again: an arm can finish if"
          + " none of the zones of its path that it still has to enter, the requested one excluded, conflicts with a"
          + " zone that another arm that has not finished yet holds; an arm that can finish has finished and holds"
          + " nothing any more.")
  static void againAndAgain(Check check) {
    int[][] orders = {{0, 1, 2}, {0, 2, 1}, {1, 0, 2}, {1, 2, 0}, {2, 0, 1}, {2, 1, 0}};
    for (int[] order : orders) {
      RobotCell x = new RobotCell();
      x.give(order[0], 12, 9, 0, -1, -1);
      x.give(order[1], 23, 9, 0, -1, -1);
      x.give(order[2], 34, 9, 0, -1, -1);
      x.tick(1);
      check.sameRow("all have started", a -> x.arm(a, 1), 1, 1, 1);
      check.same("the third finishes, then the second, then the first", x.isSafe(), true);
      x.setInterlock(3, 0, true);
      check.same("each needs what another one holds", x.isSafe(), false);
      RobotCell y = new RobotCell();
      y.give(order[0], 12, 9, 0, -1, -1);
      y.give(order[1], 23, 9, 0, -1, -1);
      y.tick(1);
      y.give(order[2], 31, 1, 0, -1, -1);
      refusedFor(check, y, order[2], UNSAFE, 0);
      y.withdraw(order[2]);
      y.give(order[2], 341, 1, 0, -1, -1);
      refusedFor(check, y, order[2], UNSAFE, 0);
      y.withdraw(order[2]);
      y.give(order[2], 3, 1, 0, -1, -1);
      check.same("the ring is open", y.wouldBe(order[2]), GRANTED);
    }
  }

  @Says(at = "Description, Safety", text = "an arm can finish if none of the zones of its path that it still has to enter")
  static void stillToEnter(Check check) {
    RobotCell x = new RobotCell();
    x.give(0, 1234, 1, 0, -1, -1);
    x.tick(7);
    check.same("arm 0 works in 3", x.arm(0, 7), 8);
    x.give(1, 24, 1, 0, -1, -1);
    check.same("arm 0 came through 1 and comes to it no more", x.wouldBe(1), GRANTED);
    x.give(2, 14, 1, 0, -1, -1);
    check.same("nor to 0", x.wouldBe(2), GRANTED);
    RobotCell y = new RobotCell();
    y.give(0, 12, 1, 9, -1, -1);
    y.tick(2);
    check.same("arm 0 moves from 0 to 1", y.arm(0, 7), 3);
    y.give(1, 31, 1, 0, -1, -1);
    check.same("arm 0 enters no zone any more", y.wouldBe(1), GRANTED);
    y.give(2, 82, 1, 0, -1, -1);
    check.same("not even the one to which it moves", y.wouldBe(2), GRANTED);
    RobotCell z = new RobotCell();
    z.give(0, 12345, 9, 0, -1, -1);
    z.tick(1);
    for (int last = 2; last <= 5; last++) {
      z.give(1, last * 10 + 1, 1, 0, -1, -1);
      check.same("all zones behind count, " + (last - 1), z.wouldBe(1), UNSAFE);
      z.withdraw(1);
    }
    z.give(1, 61, 1, 0, -1, -1);
    check.same("others do not", z.wouldBe(1), GRANTED);
    RobotCell w = new RobotCell();
    w.give(0, 123, 3, 0, -1, -1);
    w.tick(5);
    check.same("arm 0 works in 1 and has just left 0", w.arm(0, 7), 2);
    w.give(1, 12, 1, 0, -1, -1);
    check.same("arm 1 may follow it", w.wouldBe(1), GRANTED);
    w.tick(1);
    check.same("arm 1 holds what arm 0 has left", w.zone(0, 0), 1);
    check.same("both finish", w.isSafe(), true);
    check.same("arm 0 goes on", w.wouldBe(0), GRANTED);
  }

  @Says(at = "Description, Safety", text = "conflicts with a zone that another arm that has not finished yet holds")
  static void anotherArm(Check check) {
    RobotCell x = new RobotCell();
    x.give(0, 12121, 1, 0, -1, -1);
    x.setInterlock(0, 1, true);
    check.same("its own zones are not in its way", x.wouldBe(0), GRANTED);
    x.tick(1);
    check.same("nor when it works", x.isSafe(), true);
    check.same("it ends", x.endsAfter(0), 9);
    RobotCell y = new RobotCell();
    y.give(0, 12, 9, 0, -1, -1);
    y.give(1, 56, 9, 0, -1, -1);
    y.tick(1);
    y.setInterlock(1, 4, true);
    check.same("arm 1 finishes, then arm 0", y.isSafe(), true);
    y.setInterlock(5, 0, true);
    check.same("interlocks are in the way of both", y.isSafe(), false);
    y.setInterlock(4, 1, false);
    check.same("arm 0 finishes, then arm 1", y.isSafe(), true);
  }

  @Says(at = "Description, Safety", text = "The request is safe if all these arms finish in this way.")
  static void allArmsFinish(Check check) {
    RobotCell x = new RobotCell();
    x.give(0, 12, 9, 0, -1, -1);
    x.give(1, 43, 9, 0, -1, -1);
    x.tick(1);
    x.setInterlock(1, 3, true);
    x.setInterlock(0, 2, true);
    x.give(2, 8, 1, 0, -1, -1);
    check.same("arm 2 alone could finish", x.wouldBe(2), UNSAFE);
    x.tick(1);
    check.same("not started", x.arm(2, 1), 0);
    x.setInterlock(0, 2, false);
    check.same("all could finish", x.wouldBe(2), GRANTED);
  }

  @Says(at = "Description, Details",
      text = "For safety, only the one entry that is requested is excluded: if the path comes to the same zone again"
          + " later, this counts.")
  static void sameZoneAgain(Check check) {
    RobotCell x = new RobotCell();
    x.give(0, 121, 9, 0, -1, -1);
    x.tick(11);
    check.same("arm 0 came from 0 to 1", x.arm(0, 7), 2);
    x.give(2, 12, 1, 0, -1, -1);
    refusedFor(check, x, 2, UNSAFE, 0);
    x.withdraw(2);
    x.give(2, 1, 1, 0, -1, -1);
    check.same("arm 2 would let 0 go", x.wouldBe(2), GRANTED);
    RobotCell y = new RobotCell();
    y.give(0, 13, 9, 0, -1, -1);
    y.tick(1);
    y.give(1, 343, 1, 0, -1, -1);
    check.same("arm 1 comes to 2 twice and not to 0", y.wouldBe(1), GRANTED);
    y.withdraw(1);
    y.give(1, 3431, 1, 0, -1, -1);
    check.same("and then to 0", y.wouldBe(1), UNSAFE);
    RobotCell z = new RobotCell();
    z.give(0, 121, 1, 9, -1, -1);
    z.tick(2);
    check.same("arm 0 moves from 0 to 1 and comes to 0 again", z.arm(0, 7), 3);
    z.give(1, 31, 1, 0, -1, -1);
    check.same("2 is not on its path", z.wouldBe(1), GRANTED);
    z.setInterlock(0, 2, true);
    check.same("2 conflicts with the 0 that is held", z.wouldBe(1), CONFLICT);
    z.tick(3);
    check.same("arm 0 is in 1", z.arm(0, 7), 2);
    check.same("2 conflicts with the 0 that is to come, arm 1 ends with 0", z.wouldBe(1), GRANTED);
    z.withdraw(1);
    z.give(1, 32, 1, 0, -1, -1);
    check.same("arm 1 ends with 1, which arm 0 holds", z.wouldBe(1), UNSAFE);
  }

  @Says(at = "Description, Details",
      text = "While an arm moves, the zone that comes next is the one behind that to which it moves; if it moves to the"
          + " last one, there is no further zone.")
  static void nextZoneWhileMoving(Check check) {
    RobotCell x = new RobotCell();
    x.give(0, 123, 1, 9, -1, -1);
    x.give(1, 3, 9, 0, -1, -1);
    x.tick(2);
    check.same("moves from 0 to 1", x.arm(0, 7), 3);
    check.same("2 is held", x.wouldBe(0), CONFLICT);
    x.give(2, 42, 1, 0, -1, -1);
    check.same("arm 0 enters 1 no more", x.wouldBe(2), GRANTED);
    check.refused("no further zone", NO_SUCH, y -> {
      y.give(0, 12, 1, 9, -1, -1);
      y.tick(2);
    }, y -> y.wouldBe(0));
    RobotCell z = new RobotCell();
    z.give(0, 123, 1, 9, -1, -1);
    z.tick(2);
    z.give(1, 32, 1, 0, -1, -1);
    check.same("arm 0 still has to enter 2", z.wouldBe(1), UNSAFE);
  }

  // ---- promise 15: reason

  @Says(at = "Promise 15: reason",
      text = "Returns why an arm was refused its latest request, if that was in the tick before.")
  static void latestReason(Check check) {
    RobotCell x = new RobotCell();
    x.give(0, 1, 1, 0, 2, 1);
    x.give(1, 1, 9, 0, -1, -1);
    x.tick(1);
    check.same("no part", x.reason(0, false), NO_PART);
    check.same("the source", x.reason(0, true), 2);
    x.supply(2);
    x.supply(1);
    x.supply(1);
    check.same("it is the reason of that tick still", x.reason(0, false), NO_PART);
    x.tick(1);
    check.same("no room", x.reason(0, false), NO_ROOM);
    check.same("the target", x.reason(0, true), 1);
    x.setCapacity(1, 3);
    x.tick(1);
    check.same("conflict", x.reason(0, false), CONFLICT);
    check.same("the arm", x.reason(0, true), 1);
    x.withdraw(0);
    check.same("withdrawn, and no tick has passed", x.reason(0, false), CONFLICT);
  }

  @Says(at = "Promise 15: reason", text = "`isDetail`: false for the reason, true for the detail")
  static void reasonOrDetail(Check check) {
    RobotCell x = new RobotCell();
    oppositeWays(x);
    check.same("reason", x.reason(1, false), UNSAFE);
    check.same("detail", x.reason(1, true), 0);
    RobotCell y = new RobotCell();
    y.give(2, 1, 1, 0, 2, -1);
    y.tick(1);
    check.same("reason of arm 2", y.reason(2, false), NO_PART);
    check.same("detail of arm 2", y.reason(2, true), 2);
  }

  @Says(at = "Promise 15: reason", text = "Throws `IndexOutOfBoundsException` if there is no such arm")
  static void reasonOfNoArm(Check check) {
    for (int arm : NO_ARMS) {
      check.refused("reason of " + arm, INDEX, RequestsTest::oppositeWays, x -> x.reason(arm, false));
      check.refused("detail of " + arm, INDEX, RequestsTest::oppositeWays, x -> x.reason(arm, true));
    }
  }

  @Says(at = "Promise 15: reason", text = "Throws `NoSuchElementException` if its patience in the next tick is 0")
  static void reasonWithoutPatience(Check check) {
    for (int i = 0; i < 3; i++) {
      int arm = i;
      check.refused("a new object", NO_SUCH, RequestsTest::nothing, x -> x.reason(arm, arm == 1));
    }
    check.refused("granted", NO_SUCH, RequestsTest::oppositeWays, x -> x.reason(0, false));
    check.refused("no request", NO_SUCH, RequestsTest::oppositeWays, x -> x.reason(2, true));
    Calls granted = x -> {
      oppositeWays(x);
      x.tick(18);
    };
    check.refused("refused before, then granted", NO_SUCH, granted, x -> x.reason(1, false));
    Calls withdrawn = x -> {
      oppositeWays(x);
      x.withdraw(1);
      x.tick(1);
    };
    check.refused("refused before, then without a request", NO_SUCH, withdrawn, x -> x.reason(1, true));
    RobotCell x = new RobotCell();
    oppositeWays(x);
    check.same("patience", x.arm(1, 6), 3);
    check.same("reason", x.reason(1, false), UNSAFE);
    check.unchanged("reason", RequestsTest::oppositeWays, y -> y.reason(1, false));
  }

  // ---- promise 16: wouldBe

  @Says(at = "Promise 16: wouldBe",
      text = "Returns what would be the answer if an arm now requested to start the first job of its row, or the zone that"
          + " comes next on the path of its active job, whatever its state is.")
  static void inEachState(Check check) {
    RobotCell x = new RobotCell();
    x.give(0, 123, 3, 0, -1, -1);
    check.same("idle", x.wouldBe(0), GRANTED);
    x.tick(1);
    check.same("works", x.wouldBe(0), GRANTED);
    x.give(1, 2, 9, 0, -1, -1);
    check.same("idle, too", x.wouldBe(1), GRANTED);
    x.tick(1);
    check.same("works beside a zone that is held", x.wouldBe(0), CONFLICT);
    x.tick(2);
    check.same("it waits", x.arm(0, 1), 3);
    check.same("waits", x.wouldBe(0), CONFLICT);
    x.tick(8);
    check.same("it moves", x.arm(0, 1), 2);
    check.same("moves", x.wouldBe(0), GRANTED);
    x.give(0, 1, 1, 0, 0, -1);
    check.same("the row of an arm with an active job does not count", x.wouldBe(0), GRANTED);
    x.give(1, 8, 1, 0, -1, -1);
    x.give(1, 8, 1, 0, 1, -1);
    check.same("the first job of a row", x.wouldBe(1), GRANTED);
  }

  @Says(at = "Promise 16: wouldBe", text = "Nothing changes.")
  static void wouldBeChangesNothing(Check check) {
    for (int i = 0; i < 2; i++) {
      int arm = i;
      check.unchanged("arm " + i, RequestsTest::oppositeWays, x -> x.wouldBe(arm));
    }
    RobotCell x = new RobotCell();
    x.give(0, 1, 1, 0, 2, -1);
    x.tick(1);
    x.supply(2);
    x.give(1, 1, 9, 0, -1, -1);
    x.give(2, 1, 9, 0, 1, -1);
    x.wouldBe(2);
    x.wouldBe(1);
    check.same("the reason stays", x.reason(0, false), NO_PART);
    check.same("the detail stays", x.reason(0, true), 2);
  }

  @Says(at = "Promise 16: wouldBe", text = "Returns 0 if it would be granted, otherwise the reason.")
  static void wouldBeForEachReason(Check check) {
    RobotCell x = new RobotCell();
    x.give(0, 12, 9, 0, -1, -1);
    x.tick(1);
    x.supply(2);
    x.supply(2);
    int[][] jobs = {{3, -1, -1}, {3, 0, -1}, {3, -1, 2}, {1, -1, -1}, {21, -1, -1}, {1, 1, 2}, {2, 2, 1}};
    int[] due = {GRANTED, NO_PART, NO_ROOM, CONFLICT, UNSAFE, NO_PART, GRANTED};
    for (int i = 0; i < jobs.length; i++) {
      x.give(1, jobs[i][0], 1, 0, jobs[i][1], jobs[i][2]);
      check.same("job " + i, x.wouldBe(1), due[i]);
      x.withdraw(1);
    }
  }

  @Says(at = "Promise 16: wouldBe", text = "Throws `IndexOutOfBoundsException` if there is no such arm")
  static void wouldBeOfNoArm(Check check) {
    for (int arm : NO_ARMS) {
      check.refused("arm " + arm, INDEX, RequestsTest::oppositeWays, x -> x.wouldBe(arm));
    }
  }

  @Says(at = "Promise 16: wouldBe",
      text = "Throws `NoSuchElementException` if it is idle and its row is empty, or its active job has no further zone")
  static void wouldBeWithoutARequest(Check check) {
    check.refused("idle with an empty row", NO_SUCH, RequestsTest::oppositeWays, x -> x.wouldBe(2));
    check.refused("the job was withdrawn", NO_SUCH, x -> {
      x.give(0, 1, 1, 0, -1, -1);
      x.withdraw(0);
    }, x -> x.wouldBe(0));
    check.refused("works in the only zone", NO_SUCH, x -> {
      x.give(0, 1, 2, 0, -1, -1);
      x.give(0, 12, 2, 0, -1, -1);
      x.tick(1);
    }, x -> x.wouldBe(0));
    check.refused("works in the last of five", NO_SUCH, x -> {
      x.give(0, 12121, 1, 0, -1, -1);
      x.tick(9);
    }, x -> x.wouldBe(0));
    check.refused("moves to the last of five", NO_SUCH, x -> {
      x.give(0, 12121, 1, 0, -1, -1);
      x.tick(8);
    }, x -> x.wouldBe(0));
    RobotCell x = new RobotCell();
    x.give(0, 12121, 1, 0, -1, -1);
    x.tick(7);
    check.same("works in the one before the last", x.wouldBe(0), GRANTED);
    x.tick(3);
    x.give(0, 1, 1, 0, -1, -1);
    check.same("idle with a row again", x.wouldBe(0), GRANTED);
  }

  // ---- promise 19: isSafe

  @Says(at = "Promise 19: isSafe",
      text = "Returns whether all arms with an active job could finish in the way that is told for requests, as zones are"
          + " held now.")
  static void asZonesAreHeldNow(Check check) {
    RobotCell x = new RobotCell();
    check.same("no active jobs", x.isSafe(), true);
    x.give(0, 12, 3, 0, -1, -1);
    x.give(1, 43, 3, 0, -1, -1);
    x.tick(1);
    check.same("apart", x.isSafe(), true);
    x.setInterlock(1, 3, true);
    check.same("one needs what the other holds", x.isSafe(), true);
    x.setInterlock(0, 2, true);
    check.same("each needs what the other holds", x.isSafe(), false);
    x.give(2, 1, 1, 0, -1, -1);
    x.tick(10);
    check.same("both wait", x.arm(0, 1) + x.arm(1, 1), 6);
    check.same("still", x.isSafe(), false);
    x.setInterlock(0, 2, false);
    check.same("safe again", x.isSafe(), true);
    check.same("they go on", x.tick(20), 3);
    check.same("rows do not count", x.isSafe(), true);
    check.unchanged("isSafe", RequestsTest::oppositeWays, y -> y.isSafe());
    RobotCell z = new RobotCell();
    oppositeWays(z);
    check.same("a job that is refused is not active", z.isSafe(), true);
  }

  @Says(at = "Promise 19: isSafe", text = "Returns whether they could.")
  static void whileArmsMove(Check check) {
    RobotCell x = new RobotCell();
    x.give(0, 12, 1, 9, -1, -1);
    x.give(1, 54, 9, 0, -1, -1);
    x.tick(2);
    x.setInterlock(0, 3, true);
    check.same("arm 0 moves to its last zone and finishes first", x.isSafe(), true);
    x.setInterlock(1, 3, true);
    check.same("the zone to which it moves, too", x.isSafe(), true);
    RobotCell y = new RobotCell();
    y.give(0, 123, 1, 9, -1, -1);
    y.give(1, 54, 9, 0, -1, -1);
    y.tick(2);
    y.setInterlock(2, 4, true);
    check.same("arm 1 finishes first", y.isSafe(), true);
    y.setInterlock(0, 3, true);
    check.same("it needs 3, against 0, which arm 0 leaves", y.isSafe(), false);
    y.setInterlock(0, 3, false);
    y.setInterlock(1, 3, true);
    check.same("it needs 3, against 1, to which arm 0 moves", y.isSafe(), false);
  }
}
