import java.util.NoSuchElementException;

/** Promises 14 to 20: ticks, reasons, forecasts, safety, the log. */
public final class TimeTest {
  private static final Check CHECK = new Check();
  private static final Class<IndexOutOfBoundsException> INDEX = IndexOutOfBoundsException.class;
  private static final Class<IllegalArgumentException> ARGUMENT = IllegalArgumentException.class;
  private static final Class<NoSuchElementException> NO_SUCH = NoSuchElementException.class;

  public static void main(String[] args) {
    tick();
    order();
    durationByWeight();
    durationByNeighbors();
    durationAsZonesAreHeldAtThisMoment();
    partsAtEnds();
    sameSourceAndTarget();
    reason();
    reasonsInTheirOrder();
    safetyOfThree();
    safetyOfLaterVisits();
    safetyWhileMoving();
    safetyOfPassedZones();
    safetyOfAChain();
    safetyOfTheHeldZone();
    wouldBe();
    wouldBeWhileMoving();
    endsAfter();
    endsAfterTwoHundred();
    idleAfter();
    isSafe();
    entry();
    entriesKept();
    CHECK.end();
  }

  private static void tick() {
    RobotCell x = new RobotCell();
    CHECK.throwing("0 ticks", ARGUMENT, () -> x.tick(0));
    CHECK.throwing("51 ticks", ARGUMENT, () -> x.tick(51));
    CHECK.throwing("-1 ticks", ARGUMENT, () -> x.tick(-1));
    CHECK.same("nothing to do", x.tick(50), 0);
    CHECK.same("time", x.account(0), 50);
    x.give(0, 1, 1, 0, -1, -1);
    x.give(0, 1, 1, 0, -1, -1);
    x.give(1, 3, 2, 0, -1, -1);
    x.give(2, 5, 9, 0, -1, -1);
    CHECK.same("two end", x.tick(3), 2);
    CHECK.same("one ends", x.tick(1), 1);
    CHECK.same("none ends", x.tick(5), 0);
    CHECK.same("the last one ends", x.tick(1), 1);
    CHECK.same("time of the end", x.job(3, 8), 60);
  }

  /** An arm that was refused something acts before arms with lower numbers, and longer patience counts more. */
  private static void order() {
    RobotCell x = new RobotCell();
    x.give(0, 1, 3, 0, -1, -1);
    x.give(0, 1, 1, 0, -1, -1);
    x.tick(1);
    x.give(2, 1, 1, 0, -1, -1);
    x.tick(1);
    x.give(1, 1, 1, 0, -1, -1);
    x.tick(1);
    CHECK.same("arm 2 was refused twice", x.arm(2, 6), 2);
    CHECK.same("arm 1 was refused once", x.arm(1, 6), 1);
    x.tick(1);
    CHECK.same("arm 0 acted last", x.arm(2, 6), 3);
    CHECK.same("and ended", x.arm(0, 1), 0);
    x.tick(1);
    CHECK.same("the most patient one starts", x.job(2, 7), 5);
    CHECK.same("arm 1 is refused", x.arm(1, 6), 3);
    CHECK.same("arm 0 is refused", x.arm(0, 6), 1);
    x.tick(1);
    CHECK.same("then still", x.arm(2, 1), 0);
    x.tick(1);
    CHECK.same("the second starts", x.job(3, 7), 7);
    x.tick(2);
    CHECK.same("the third starts", x.job(1, 7), 9);
    RobotCell y = new RobotCell();
    y.give(2, 4, 1, 0, -1, -1);
    y.give(1, 4, 1, 0, -1, -1);
    y.tick(1);
    CHECK.same("the lower number comes first", y.arm(1, 1), 1);
    CHECK.same("the higher one is refused", y.arm(2, 6), 1);
    y.withdraw(2);
    CHECK.same("the patience stays", y.arm(2, 6), 1);
    y.tick(1);
    CHECK.same("nothing was refused", y.arm(2, 6), 0);
  }

  private static void durationByWeight() {
    for (int weight = 0; weight < 10; weight++) {
      RobotCell x = new RobotCell();
      x.give(0, 12, 1, weight, -1, -1);
      x.tick(2);
      CHECK.same("weight " + weight, x.arm(0, 5), 1 + weight / 4);
      CHECK.same("end for weight " + weight, x.endsAfter(0), 1 + weight / 4 + 1);
    }
  }

  private static void durationByNeighbors() {
    int[] due = {1, 1, 1, 2, 0, 2, 1, 1};
    for (int next = 0; next < 8; next++) {
      if (next == 4) {
        continue;
      }
      RobotCell x = new RobotCell();
      x.give(1, 5, 9, 0, -1, -1);
      x.give(0, (next == 0 ? 20 : 10) + next + 1, 1, 0, -1, -1);
      x.tick(2);
      CHECK.same("move to " + next, x.arm(0, 5), due[next]);
    }
  }

  private static void durationAsZonesAreHeldAtThisMoment() {
    RobotCell x = new RobotCell();
    x.give(0, 47, 1, 0, -1, -1);
    x.give(1, 13, 1, 0, -1, -1);
    x.tick(2);
    CHECK.same("arm 0 moves from 3 to 6", x.arm(0, 7), 8 | 64);
    CHECK.same("3, from which it moves, is a neighbor of 2", x.arm(1, 5), 2);
    x.tick(1);
    CHECK.same("the duration stays though 3 is released", x.arm(1, 5), 1);
    RobotCell y = new RobotCell();
    y.give(0, 36, 1, 0, -1, -1);
    y.give(1, 8, 2, 0, -1, -1);
    y.give(2, 17, 1, 0, -1, -1);
    y.tick(2);
    CHECK.same("arms 0 and 1 act before arm 2", y.arm(2, 5), 2);
    RobotCell z = new RobotCell();
    z.give(0, 5, 1, 0, -1, -1);
    z.give(1, 16, 1, 0, -1, -1);
    z.tick(2);
    CHECK.same("arm 0 ended in this tick before", z.arm(1, 5), 1);
    RobotCell w = new RobotCell();
    w.give(0, 16, 1, 0, -1, -1);
    w.give(1, 5, 1, 0, -1, -1);
    w.tick(2);
    CHECK.same("arm 1 ends in this tick behind", w.arm(0, 5), 2);
    RobotCell v = new RobotCell();
    v.give(0, 12, 1, 0, -1, -1);
    v.tick(2);
    CHECK.same("its own zone does not count", v.arm(0, 5), 1);
  }

  private static void partsAtEnds() {
    RobotCell x = new RobotCell();
    x.supply(0);
    x.supply(0);
    x.give(0, 1, 1, 0, 0, -1);
    x.tick(2);
    CHECK.same("gone", x.account(6), 1);
    CHECK.same("left", x.buffer(0, 5), 1);
    CHECK.same("parts", x.account(5), 1);
    x.give(0, 1, 1, 0, 0, 2);
    x.tick(2);
    CHECK.same("moved part", x.part(2, 0), 1);
    CHECK.same("came", x.buffer(2, 4), 1);
    CHECK.same("gone still", x.account(6), 1);
    x.give(0, 1, 1, 0, -1, 2);
    x.tick(2);
    CHECK.same("new part behind it", x.part(2, 1), 2);
    CHECK.same("new parts", x.account(4), 3);
    x.give(0, 1, 1, 0, -1, -1);
    x.tick(2);
    CHECK.same("neither source nor target", x.account(4), 3);
    CHECK.same("parts then", x.account(5), 2);
    CHECK.same("gone then", x.account(6), 1);
  }

  private static void sameSourceAndTarget() {
    RobotCell x = new RobotCell();
    x.supply(1);
    x.give(0, 1, 1, 0, 1, 1);
    x.tick(1);
    CHECK.same("promised place", x.buffer(1, 2), 1);
    CHECK.same("promised part", x.buffer(1, 3), 1);
    x.tick(1);
    CHECK.same("came", x.buffer(1, 4), 2);
    CHECK.same("left", x.buffer(1, 5), 1);
    x.supply(1);
    x.give(0, 1, 1, 0, 1, 1);
    x.tick(1);
    CHECK.same("no room for the part that is to come back", x.reason(0, false), 2);
    x.setCapacity(1, 3);
    x.tick(2);
    CHECK.same("first part", x.part(1, 0), 1);
    CHECK.same("last part", x.part(1, 1), 0);
  }

  private static void reason() {
    RobotCell x = new RobotCell();
    CHECK.throwing("arm 3", INDEX, () -> x.reason(3, false));
    CHECK.throwing("arm -1", INDEX, () -> x.reason(-1, true));
    CHECK.throwing("no refusal", NO_SUCH, () -> x.reason(0, false));
    x.give(0, 1, 1, 0, 2, 1);
    x.give(1, 1, 9, 0, -1, -1);
    x.tick(1);
    CHECK.same("no part", x.reason(0, false), 1);
    CHECK.same("the source", x.reason(0, true), 2);
    CHECK.throwing("granted", NO_SUCH, () -> x.reason(1, false));
    x.supply(2);
    CHECK.same("still", x.reason(0, false), 1);
    x.supply(1);
    x.supply(1);
    x.tick(1);
    CHECK.same("no room", x.reason(0, false), 2);
    CHECK.same("the target", x.reason(0, true), 1);
    x.setCapacity(1, 3);
    x.tick(1);
    CHECK.same("conflict", x.reason(0, false), 3);
    CHECK.same("the arm", x.reason(0, true), 1);
    x.withdraw(0);
    CHECK.same("the reason stays", x.reason(0, false), 3);
    x.tick(1);
    CHECK.throwing("no request", NO_SUCH, () -> x.reason(0, true));
  }

  private static void reasonsInTheirOrder() {
    RobotCell x = new RobotCell();
    x.supply(0);
    x.give(0, 1, 9, 0, 0, 1);
    x.give(2, 3, 9, 0, -1, 1);
    x.tick(1);
    x.setInterlock(1, 0, true);
    x.setInterlock(1, 2, true);
    x.give(1, 2, 1, 0, 0, 1);
    CHECK.same("the only part is promised", x.wouldBe(1), 1);
    x.tick(1);
    CHECK.same("the source", x.reason(1, true), 0);
    x.supply(0);
    CHECK.same("all places are promised", x.wouldBe(1), 2);
    x.tick(1);
    CHECK.same("the target", x.reason(1, true), 1);
    x.setCapacity(1, 3);
    CHECK.same("interlocks", x.wouldBe(1), 3);
    x.tick(1);
    CHECK.same("the lowest arm", x.reason(1, true), 0);
    x.setInterlock(0, 1, false);
    x.tick(1);
    CHECK.same("the other arm", x.reason(1, true), 2);
    x.setInterlock(2, 1, false);
    CHECK.same("granted", x.wouldBe(1), 0);
  }

  /** Three arms in a ring: the one that would close it is refused. */
  private static void safetyOfThree() {
    RobotCell x = new RobotCell();
    x.give(0, 12, 1, 0, -1, -1);
    x.give(1, 23, 1, 0, -1, -1);
    x.give(2, 31, 1, 0, -1, -1);
    x.tick(1);
    CHECK.same("two start", x.arm(0, 1) + x.arm(1, 1), 2);
    CHECK.same("the third one is refused", x.reason(2, false), 4);
    CHECK.same("no arm could finish", x.reason(2, true), 0);
    CHECK.same("safe without it", x.isSafe(), true);
    CHECK.same("all end", x.idleAfter(), 8);
    RobotCell y = new RobotCell();
    y.give(0, 7, 9, 0, -1, -1);
    y.give(1, 12, 2, 0, -1, -1);
    y.tick(1);
    y.give(2, 21, 1, 0, -1, -1);
    y.tick(1);
    CHECK.same("unsafe", y.reason(2, false), 4);
    CHECK.same("arm 0 could finish", y.reason(2, true), 1);
  }

  /** Only the one entry that is requested is excluded. */
  private static void safetyOfLaterVisits() {
    RobotCell x = new RobotCell();
    x.give(0, 2, 9, 0, -1, -1);
    x.tick(1);
    x.give(1, 12321, 1, 0, -1, -1);
    CHECK.same("arm 0 finishes first", x.wouldBe(1), 0);
    RobotCell y = new RobotCell();
    y.give(0, 121, 9, 0, -1, -1);
    y.tick(10);
    y.give(1, 31, 1, 0, -1, -1);
    CHECK.same("arm 0 holds 0 and comes to it again", y.wouldBe(1), 0);
    y.tick(1);
    CHECK.same("arm 0 is in 1", y.arm(0, 7), 2);
    y.give(2, 12, 1, 0, -1, -1);
    CHECK.same("0 is still to come for arm 0", y.wouldBe(2), 4);
    RobotCell z = new RobotCell();
    z.give(0, 13, 9, 0, -1, -1);
    z.tick(1);
    z.give(1, 3431, 1, 0, -1, -1);
    CHECK.same("the later 0 counts, the requested 2 too", z.wouldBe(1), 4);
  }

  private static void safetyWhileMoving() {
    RobotCell x = new RobotCell();
    x.give(0, 123, 1, 9, -1, -1);
    x.tick(2);
    CHECK.same("moves to 1", x.arm(0, 7), 3);
    x.give(1, 32, 1, 0, -1, -1);
    CHECK.same("its next zone is the one behind", x.wouldBe(1), 4);
    x.setReach(2, 255);
    x.give(2, 41, 1, 0, -1, -1);
    CHECK.same("it comes to 0 no more", x.wouldBe(2), 0);
  }

  private static void safetyOfPassedZones() {
    RobotCell x = new RobotCell();
    x.give(0, 1234, 1, 0, -1, -1);
    x.tick(7);
    CHECK.same("arm 0 works in 3", x.arm(0, 7), 8);
    x.give(1, 24, 1, 0, -1, -1);
    CHECK.same("arm 0 came through 1 and comes to it no more", x.wouldBe(1), 0);
    x.give(2, 14, 1, 0, -1, -1);
    CHECK.same("nor to 0", x.wouldBe(2), 0);
  }

  /** The highest arm finishes first, then the middle one, then the lowest. */
  private static void safetyOfAChain() {
    RobotCell x = new RobotCell();
    x.give(2, 34, 9, 0, -1, -1);
    x.give(1, 23, 9, 0, -1, -1);
    x.tick(1);
    x.give(0, 12, 1, 0, -1, -1);
    CHECK.same("all can finish", x.wouldBe(0), 0);
    x.tick(1);
    CHECK.same("it started", x.arm(0, 1), 1);
    CHECK.same("all could finish", x.isSafe(), true);
    RobotCell y = new RobotCell();
    y.give(0, 12, 9, 0, -1, -1);
    y.give(1, 23, 9, 0, -1, -1);
    y.tick(1);
    y.give(2, 34, 1, 0, -1, -1);
    CHECK.same("the other way round", y.wouldBe(2), 0);
  }

  /** The arm that requests goes on to hold what it holds. */
  private static void safetyOfTheHeldZone() {
    RobotCell x = new RobotCell();
    x.give(0, 123, 2, 0, -1, -1);
    x.give(1, 67, 9, 0, -1, -1);
    x.tick(1);
    x.setInterlock(2, 5, true);
    CHECK.same("arm 1 finishes first", x.wouldBe(0), 0);
    x.setInterlock(6, 0, true);
    CHECK.same("arm 1 waits for the zone that arm 0 holds", x.wouldBe(0), 4);
    x.tick(2);
    CHECK.same("arm 0 waits", x.arm(0, 1), 3);
    CHECK.same("reason", x.reason(0, false), 4);
    CHECK.same("detail", x.reason(0, true), 0);
  }

  private static void wouldBe() {
    RobotCell x = new RobotCell();
    CHECK.throwing("arm 3", INDEX, () -> x.wouldBe(3));
    CHECK.throwing("arm -1", INDEX, () -> x.wouldBe(-1));
    CHECK.throwing("idle without jobs", NO_SUCH, () -> x.wouldBe(0));
    x.give(0, 12, 3, 0, -1, -1);
    CHECK.same("granted", x.wouldBe(0), 0);
    x.tick(1);
    CHECK.same("while it works", x.wouldBe(0), 0);
    x.give(1, 2, 9, 0, -1, -1);
    CHECK.same("the other one, too", x.wouldBe(1), 0);
    x.tick(1);
    CHECK.same("conflict while it works", x.wouldBe(0), 3);
    CHECK.throwing("no further zone", NO_SUCH, () -> x.wouldBe(1));
    CHECK.same("nothing changed", x.arm(0, 8), 0);
    CHECK.same("no patience", x.arm(0, 6), 0);
    x.tick(2);
    CHECK.same("conflict while it waits", x.wouldBe(0), 3);
    x.give(1, 3, 1, 0, 0, -1);
    CHECK.throwing("the row of a busy arm does not matter", NO_SUCH, () -> x.wouldBe(1));
  }

  private static void wouldBeWhileMoving() {
    RobotCell x = new RobotCell();
    x.give(0, 121, 1, 9, -1, -1);
    x.give(1, 34, 1, 9, -1, -1);
    x.tick(2);
    CHECK.same("both move", x.arm(0, 1) + x.arm(1, 1), 4);
    CHECK.same("the zone behind, which it holds itself", x.wouldBe(0), 0);
    CHECK.throwing("it moves to the last one", NO_SUCH, () -> x.wouldBe(1));
    RobotCell y = new RobotCell();
    y.give(0, 123, 1, 9, -1, -1);
    y.give(1, 3, 9, 0, -1, -1);
    y.tick(2);
    CHECK.same("the zone behind is held", y.wouldBe(0), 3);
  }

  private static void endsAfter() {
    RobotCell x = new RobotCell();
    CHECK.throwing("no job", INDEX, () -> x.endsAfter(0));
    x.give(0, 12, 2, 4, -1, -1);
    x.give(0, 3, 1, 0, -1, -1);
    x.give(0, 4, 1, 0, -1, -1);
    CHECK.same("first", x.endsAfter(0), 7);
    CHECK.same("second", x.endsAfter(1), 9);
    CHECK.same("third", x.endsAfter(2), 11);
    CHECK.same("nothing changed", x.account(0), 0);
    x.withdraw(0);
    CHECK.throwing("withdrawn", NO_SUCH, () -> x.endsAfter(2));
    x.tick(7);
    CHECK.same("ended", x.endsAfter(0), 0);
    CHECK.same("second then", x.endsAfter(1), 2);
    CHECK.throwing("job -1", INDEX, () -> x.endsAfter(-1));
    CHECK.throwing("job 3", INDEX, () -> x.endsAfter(3));
    x.give(1, 5, 1, 0, 0, -1);
    CHECK.throwing("never", NO_SUCH, () -> x.endsAfter(3));
    x.supply(0);
    CHECK.same("with a part", x.endsAfter(3), 2);
  }

  private static void endsAfterTwoHundred() {
    RobotCell x = new RobotCell();
    for (int i = 0; i < 4; i++) {
      x.give(0, 18181, 9, 0, -1, -1);
    }
    CHECK.same("work and moves", x.endsAfter(3), 200);
    CHECK.same("idle", x.idleAfter(), 200);
    RobotCell y = new RobotCell();
    y.give(0, 1, 1, 0, -1, -1);
    for (int i = 0; i < 4; i++) {
      y.give(0, 18181, 9, 0, -1, -1);
    }
    CHECK.throwing("202 ticks", NO_SUCH, () -> y.endsAfter(4));
    CHECK.throwing("idle after 202", NO_SUCH, () -> y.idleAfter());
    y.tick(1);
    CHECK.throwing("201 ticks", NO_SUCH, () -> y.endsAfter(4));
    CHECK.throwing("idle after 201", NO_SUCH, () -> y.idleAfter());
    y.tick(1);
    CHECK.same("200 ticks", y.endsAfter(4), 200);
    CHECK.same("idle after 200", y.idleAfter(), 200);
  }

  private static void idleAfter() {
    RobotCell x = new RobotCell();
    x.tick(3);
    CHECK.same("now", x.idleAfter(), 0);
    x.give(0, 1, 1, 0, -1, -1);
    CHECK.same("a row is not empty", x.idleAfter(), 2);
    x.give(1, 2, 4, 0, -1, -1);
    CHECK.same("the last one", x.idleAfter(), 5);
    x.tick(1);
    CHECK.same("active", x.idleAfter(), 4);
    x.give(2, 3, 1, 0, 1, -1);
    CHECK.throwing("never", NO_SUCH, () -> x.idleAfter());
    x.withdraw(2);
    CHECK.same("again", x.idleAfter(), 4);
  }

  private static void isSafe() {
    RobotCell x = new RobotCell();
    x.give(0, 12, 3, 0, -1, -1);
    x.give(1, 43, 3, 0, -1, -1);
    x.tick(1);
    CHECK.same("apart", x.isSafe(), true);
    x.setInterlock(1, 3, true);
    CHECK.same("one waits for the other", x.isSafe(), true);
    x.setInterlock(0, 2, true);
    CHECK.same("each waits for the other", x.isSafe(), false);
    x.give(2, 8, 1, 0, -1, -1);
    CHECK.same("unsafe for others, too", x.wouldBe(2), 4);
    x.tick(1);
    CHECK.same("the lowest arm that could not finish", x.reason(2, true), 0);
    x.tick(3);
    CHECK.same("arm 0 waits", x.reason(0, false), 3);
    CHECK.throwing("deadlock", NO_SUCH, () -> x.idleAfter());
    x.setInterlock(0, 2, false);
    CHECK.same("safe again", x.isSafe(), true);
    CHECK.same("they go on", x.tick(20), 3);
  }

  private static void entry() {
    RobotCell x = new RobotCell();
    CHECK.throwing("none", INDEX, () -> x.entry(0, 4));
    x.tick(2);
    x.give(1, 85, 2, 0, -1, -1);
    x.tick(8);
    int[][] due = {{3, 1, 0, 7}, {5, 1, 1, 4}, {6, 1, 2, 7}, {8, 1, 3, 4}};
    CHECK.same("kept", x.account(7), 4);
    for (int i = 0; i < due.length; i++) {
      for (int what = 0; what < 4; what++) {
        CHECK.same("entry " + i + ", " + what, x.entry(i, what), due[i][what]);
      }
    }
    CHECK.throwing("entry 4", INDEX, () -> x.entry(4, 0));
    CHECK.throwing("entry -1", INDEX, () -> x.entry(-1, 0));
    CHECK.throwing("what 4", ARGUMENT, () -> x.entry(0, 4));
    CHECK.throwing("what -1", ARGUMENT, () -> x.entry(3, -1));
  }

  private static void entriesKept() {
    RobotCell x = new RobotCell();
    for (int i = 0; i < 13; i++) {
      x.give(0, 1 + i % 8, 1, 0, -1, -1);
    }
    x.tick(24);
    CHECK.same("24 are kept", x.account(7), 24);
    CHECK.same("the first one still", x.entry(0, 0), 1);
    x.tick(1);
    CHECK.same("24 are kept still", x.account(7), 24);
    CHECK.same("the first one is lost", x.entry(0, 0), 2);
    CHECK.same("the last one", x.entry(23, 0), 25);
    CHECK.same("its zone", x.entry(23, 3), 4);
    CHECK.throwing("entry 24", INDEX, () -> x.entry(24, 0));
    x.undo();
    CHECK.same("the first one is back", x.entry(0, 0), 1);
  }
}
