import java.util.NoSuchElementException;

/** Zones, buffers, interlocks, reaches, capacities and parts: the first paragraphs and promises 1 to 8. */
public final class CellTest {
  private static final Class<IndexOutOfBoundsException> INDEX = IndexOutOfBoundsException.class;
  private static final Class<IllegalArgumentException> ARGUMENT = IllegalArgumentException.class;
  private static final Class<IllegalStateException> STATE = IllegalStateException.class;
  private static final Class<NoSuchElementException> NO_SUCH = NoSuchElementException.class;
  private static final int[] NO_ZONES = {-1, 8, 9, Integer.MIN_VALUE, Integer.MAX_VALUE};
  private static final int[] NO_ARMS = {-1, 3, 4, Integer.MIN_VALUE, Integer.MAX_VALUE};

  public static void main(String[] args) {
    Sentences.run(CellTest.class);
  }

  /** Arm 0 moves from zone 0 to zone 1 and holds both, arm 1 works in zone 4. */
  private static void twoArms(RobotCell x) {
    x.give(0, 12, 1, 9, -1, -1);
    x.give(1, 5, 9, 0, -1, -1);
    x.tick(2);
  }

  private static void nothing(RobotCell x) {}

  // ---- the description

  @Says(at = "What it is",
      text = "An object is used for at most 512 calls after it has been made; what later calls answer is free.")
  static void fiveHundredAndTwelveCalls(Check check) {
    RobotCell x = new RobotCell();
    for (int call = 1; call <= 509; call++) {
      x.tick(50);
    }
    check.same("call 510, undo", x.undo(), 5);
    check.same("call 511, undo", x.undo(), 4);
    check.same("call 512, the time", x.account(0), 507 * 50);
  }

  @Says(at = "Description",
      text = "A method that throws an exception or returns an error code leaves the state unchanged, unless its"
          + " description says otherwise.")
  static void wrongCallsChangeNothing(Check check) {
    Calls[] wrong = {
      x -> x.setInterlock(0, 4, true), x -> x.setReach(0, 256), x -> x.setCapacity(0, 0), x -> x.supply(3),
      x -> x.zone(8, 0), x -> x.buffer(0, 6), x -> x.part(0, 0), x -> x.give(0, 11, 1, 0, -1, -1), x -> x.withdraw(2),
      x -> x.job(2, 0), x -> x.arm(0, 10), x -> x.waiting(0, 0), x -> x.tick(51), x -> x.reason(0, false),
      x -> x.wouldBe(2), x -> x.endsAfter(2), x -> x.entry(24, 0), x -> x.account(10), x -> x.use(3),
      x -> x.meanDuration(),
    };
    for (int i = 0; i < wrong.length; i++) {
      RobotCell x = new RobotCell();
      twoArms(x);
      check.same("wrong call " + i + " throws nothing", Calls.thrown(x, wrong[i]).equals("nothing"), false);
    }
    check.unchanged("all of them", CellTest::twoArms, x -> {
      for (int i = 0; i < wrong.length; i++) {
        Calls.tried(wrong[i]).on(x);
      }
    });
    check.textWrong("i67;t5;", 7, CellTest::twoArms);
    check.textRefused("i67;t5;t0", UnsupportedOperationException.class, CellTest::twoArms);
  }

  @Says(at = "Description", text = "If several exceptions apply, the one named first is thrown.")
  static void severalExceptions(Check check) {
    Calls full = x -> {
      twoArms(x);
      for (int i = 2; i < 30; i++) {
        x.give(2, 1, 1, 0, 0, -1);
      }
      x.setReach(2, 0);
    };
    check.refused("all four of give", INDEX, full, x -> x.give(2, 99, 0, 10, -2, 3));
    check.refused("the last three of give", ARGUMENT, full, x -> x.give(2, 99, 0, 10, -1, -1));
    check.refused("the last two of give", UnsupportedOperationException.class, full,
        x -> x.give(2, 1, 1, 0, -1, -1));
    check.refused("the last one of give", STATE, full, x -> x.give(0, 1, 1, 0, -1, -1));
    check.refused("both of zone", INDEX, full, x -> x.zone(-1, -1));
    check.refused("both of buffer", INDEX, full, x -> x.buffer(-1, -1));
    check.refused("both of part", INDEX, full, x -> x.part(-1, -1));
    check.refused("both of job", INDEX, full, x -> x.job(30, -1));
    check.refused("both of arm", INDEX, full, x -> x.arm(-1, -1));
    check.refused("both of entry", INDEX, full, x -> x.entry(-1, -1));
  }

  @Says(at = "Description, Zones",
      text = "There are 8 zones, numbered from 0; two zones are neighbors if their numbers differ by 1.")
  static void neighbors(Check check) {
    for (int held = 0; held < 8; held++) {
      for (int next = 0; next < 8; next++) {
        if (next == held) {
          continue;
        }
        RobotCell x = new RobotCell();
        x.give(1, held + 1, 9, 0, -1, -1);
        int from = next == 2 || held == 2 ? next == 5 || held == 5 ? 7 : 5 : 2;
        x.give(0, (from + 1) * 10 + next + 1, 1, 0, -1, -1);
        x.tick(2);
        boolean areNeighbors = next == held + 1 || next == held - 1;
        check.same("ticks of a move to " + next + " beside " + held, x.arm(0, 5), areNeighbors ? 2 : 1);
      }
    }
  }

  @Says(at = "Description, Zones",
      text = "An interlock is a pair of different zones, without an order; there are none at first.")
  static void interlocksHaveNoOrder(Check check) {
    RobotCell x = new RobotCell();
    check.same("interlocks at first", x.account(9), 0);
    check.same("7 and 0", x.setInterlock(7, 0, true), false);
    check.same("0 and 7", x.setInterlock(0, 7, true), true);
    check.same("interlocks", x.account(9), 1);
    check.same("0 and 7 removed", x.setInterlock(0, 7, false), true);
    check.same("7 and 0 then", x.setInterlock(7, 0, false), false);
    check.same("interlocks then", x.account(9), 0);
  }

  @Says(at = "Description, Zones",
      text = "Two zones conflict if they are the same zone, or there is an interlock of both.")
  static void conflicts(Check check) {
    RobotCell x = new RobotCell();
    x.setInterlock(0, 7, true);
    x.setInterlock(3, 0, true);
    check.sameRow("conflicts", z -> x.zone(z, 1), 1 | 8 | 128, 2, 4, 8 | 1, 16, 32, 64, 128 | 1);
  }

  @Says(at = "Description, Buffers", text = "There are 3 buffers, numbered from 0.")
  static void threeBuffers(Check check) {
    RobotCell x = new RobotCell();
    check.sameRow("parts of buffers", b -> x.buffer(b, 1), 0, 0, 0);
    for (int buffer : NO_ARMS) {
      check.refused("buffer " + buffer, INDEX, CellTest::nothing, y -> y.buffer(buffer, 0));
    }
  }

  @Says(at = "Description, Buffers",
      text = "A buffer has a capacity from 1 to 4, at first 2, and holds parts, which are numbers, in the order in"
          + " which they came; at first it is empty.")
  static void partsInTheirOrder(Check check) {
    RobotCell x = new RobotCell();
    for (int b = 0; b < 3; b++) {
      check.same("capacity at first", x.buffer(b, 0), 2);
      check.same("parts at first", x.buffer(b, 1), 0);
    }
    x.setCapacity(1, 4);
    x.supply(1);
    x.supply(0);
    x.supply(1);
    x.supply(1);
    x.supply(1);
    check.sameRow("parts of buffer 1", i -> x.part(1, i), 0, 2, 3, 4);
    x.give(0, 1, 1, 0, 0, 2);
    x.tick(2);
    x.setCapacity(1, 4);
    x.give(0, 1, 1, 0, 1, 2);
    x.tick(2);
    check.sameRow("parts of buffer 2", i -> x.part(2, i), 1, 0);
    check.sameRow("parts of buffer 1 then", i -> x.part(1, i), 2, 3, 4);
  }

  @Says(at = "Description, Buffers", text = "Places of a buffer can be promised, and parts of it can be promised.")
  static void promises(Check check) {
    RobotCell x = new RobotCell();
    x.supply(1);
    x.give(0, 1, 1, 0, 1, 1);
    check.sameRow("promises before the start", k -> x.buffer(1, 2 + k), 0, 0);
    x.tick(1);
    check.sameRow("promises", k -> x.buffer(1, 2 + k), 1, 1);
    x.tick(1);
    check.sameRow("promises behind the end", k -> x.buffer(1, 2 + k), 0, 0);
  }

  @Says(at = "Description, Buffers",
      text = "A buffer has room if its parts and its promised places are fewer than its capacity; it has a part to"
          + " give if it has more parts than are promised.")
  static void roomAndPartsToGive(Check check) {
    RobotCell x = new RobotCell();
    x.setCapacity(0, 3);
    x.supply(0);
    x.give(0, 1, 9, 0, 0, 0);
    x.tick(1);
    x.give(1, 2, 9, 0, -1, 0);
    check.same("a part, a place and capacity 3: room", x.wouldBe(1), 0);
    x.give(2, 3, 9, 0, 0, -1);
    check.same("a part, which is promised: none to give", x.wouldBe(2), 1);
    x.supply(0);
    check.same("two parts, one of them promised: one to give", x.wouldBe(2), 0);
    check.same("two parts, a place and capacity 3: no room", x.wouldBe(1), 2);
    x.setCapacity(0, 4);
    check.same("two parts, a place and capacity 4: room", x.wouldBe(1), 0);
    x.tick(1);
    check.same("two parts, both promised", x.buffer(0, 3), 2);
    check.same("two parts, two places", x.buffer(0, 2), 2);
  }

  @Says(at = "Description, Arms", text = "There are 3 arms, numbered from 0.")
  static void threeArms(Check check) {
    RobotCell x = new RobotCell();
    check.sameRow("states", a -> x.arm(a, 1), 0, 0, 0);
    for (int arm : NO_ARMS) {
      check.refused("arm " + arm, INDEX, CellTest::nothing, y -> y.arm(arm, 0));
    }
  }

  @Says(at = "Description, Arms",
      text = "An arm has a reach, which is a set of zones, at first all zones; a row of jobs that wait, the first one"
          + " first; and at most one active job.")
  static void rowsOfArms(Check check) {
    RobotCell x = new RobotCell();
    check.sameRow("reaches at first", a -> x.arm(a, 0), 255, 255, 255);
    check.sameRow("rows at first", a -> x.arm(a, 3), 0, 0, 0);
    check.sameRow("active jobs at first", a -> x.arm(a, 2), -1, -1, -1);
    x.give(1, 1, 1, 0, -1, -1);
    x.give(1, 2, 1, 0, -1, -1);
    x.give(1, 3, 1, 0, -1, -1);
    check.sameRow("the row", i -> x.waiting(1, i), 0, 1, 2);
    x.tick(1);
    check.same("the active job", x.arm(1, 2), 0);
    check.sameRow("states of the jobs", j -> x.job(j, 6), 1, 0, 0);
    check.sameRow("the row then", i -> x.waiting(1, i), 1, 2);
    x.tick(1);
    check.same("the active job when the first one ended", x.arm(1, 2), -1);
    check.sameRow("the row still", i -> x.waiting(1, i), 1, 2);
    x.tick(1);
    check.same("the next active job", x.arm(1, 2), 1);
  }

  @Says(at = "Description, Arms",
      text = "An arm with an active job is in one of these states: it works (1) in a zone, it moves (2) from a zone"
          + " to the next one, or it waits (3) in a zone for the next one; an arm without an active job is idle (0).")
  static void states(Check check) {
    RobotCell x = new RobotCell();
    x.give(2, 12, 1, 0, -1, -1);
    x.give(0, 2, 2, 0, -1, -1);
    check.same("idle with a row", x.arm(2, 1), 0);
    x.tick(1);
    check.same("works", x.arm(2, 1), 1);
    x.tick(1);
    check.same("waits", x.arm(2, 1), 3);
    x.tick(2);
    check.same("moves", x.arm(2, 1), 2);
    x.tick(1);
    check.same("works in the last zone", x.arm(2, 1), 1);
    x.tick(1);
    check.same("idle", x.arm(2, 1), 0);
  }

  @Says(at = "Description, Arms",
      text = "An arm that works or waits holds its zone, an arm that moves holds both zones, an idle arm holds none.")
  static void heldZones(Check check) {
    RobotCell x = new RobotCell();
    x.give(2, 18, 1, 0, -1, -1);
    x.give(0, 8, 2, 0, -1, -1);
    check.same("idle with a row", x.arm(2, 7), 0);
    x.tick(1);
    check.same("works", x.arm(2, 7), 1);
    x.tick(1);
    check.same("waits", x.arm(2, 7), 1);
    x.tick(2);
    check.same("moves", x.arm(2, 7), 1 | 128);
    x.tick(1);
    check.same("works in the last zone", x.arm(2, 7), 128);
    x.tick(1);
    check.same("idle", x.arm(2, 7), 0);
  }

  // ---- promise 1

  @Says(at = "Promise 1: A new object", text = "Creates a cell without interlocks, parts and jobs.")
  static void newObject(Check check) {
    RobotCell x = new RobotCell();
    check.sameRow("accounts", x::account, 0, 0, 0, 0, 0, 0, 0, 0, 0, 0);
    for (int i = 0; i < 8; i++) {
      int zone = i;
      check.sameRow("zone " + i, what -> x.zone(zone, what), -1, 1 << zone, 7, 0, 0);
    }
    for (int i = 0; i < 3; i++) {
      int one = i;
      check.sameRow("buffer " + i, what -> x.buffer(one, what), 2, 0, 0, 0, 0, 0);
      check.sameRow("arm " + i, what -> x.arm(one, what), 255, 0, -1, 0, -1, 0, 0, 0, 0, 0);
    }
    check.same("idleAfter", x.idleAfter(), 0);
    check.same("isSafe", x.isSafe(), true);
    check.same("letters", x.feed('t'), 1);
    x.perform();
    x.tick(1);
    check.same("changes that can be taken back behind the first one", x.undo(), 0);
  }

  // ---- promise 2: setInterlock

  @Says(at = "Promise 2: setInterlock", text = "Returns whether there was one.")
  static void interlockBefore(Check check) {
    RobotCell x = new RobotCell();
    check.same("none to remove", x.setInterlock(2, 5, false), false);
    check.same("made", x.setInterlock(2, 5, true), false);
    check.same("another one with one of its zones", x.setInterlock(2, 6, true), false);
    check.same("removed", x.setInterlock(2, 5, false), true);
    check.same("removed again", x.setInterlock(2, 5, false), false);
  }

  @Says(at = "Promise 2: setInterlock", text = "`isMade`: whether there is an interlock then")
  static void interlockThen(Check check) {
    RobotCell x = new RobotCell();
    x.setInterlock(6, 7, true);
    check.same("made", x.zone(7, 1), 64 | 128);
    x.setInterlock(6, 7, true);
    check.same("made again", x.zone(7, 1), 64 | 128);
    x.setInterlock(6, 7, false);
    check.same("removed", x.zone(7, 1), 128);
    x.setInterlock(6, 7, false);
    check.same("removed again", x.zone(7, 1), 128);
  }

  @Says(at = "Promise 2: setInterlock", text = "Throws `IndexOutOfBoundsException` if there is no such zone")
  static void interlockOfNoZone(Check check) {
    for (int zone : NO_ZONES) {
      check.refused(zone + " and 0", INDEX, CellTest::twoArms, x -> x.setInterlock(zone, 0, true));
      check.refused("7 and " + zone, INDEX, CellTest::twoArms, x -> x.setInterlock(7, zone, false));
    }
    check.same("0 and 7 are zones", new RobotCell().setInterlock(0, 7, true), false);
  }

  @Says(at = "Promise 2: setInterlock", text = "Throws `IllegalArgumentException` if both are the same")
  static void interlockOfOneZone(Check check) {
    for (int i = 0; i < 8; i++) {
      int zone = i;
      check.refused("made of " + i, ARGUMENT, CellTest::twoArms, x -> x.setInterlock(zone, zone, true));
      check.refused("removed of " + i, ARGUMENT, CellTest::twoArms, x -> x.setInterlock(zone, zone, false));
    }
  }

  @Says(at = "Promise 2: setInterlock",
      text = "Throws `IllegalStateException` if it would be made, there is none, and two different arms hold one of"
          + " the zones each")
  static void interlockOfHeldZones(Check check) {
    check.refused("0 and 4", STATE, CellTest::twoArms, x -> x.setInterlock(0, 4, true));
    check.refused("4 and 0", STATE, CellTest::twoArms, x -> x.setInterlock(4, 0, true));
    check.refused("1, to which an arm moves, and 4", STATE, CellTest::twoArms, x -> x.setInterlock(1, 4, true));
    RobotCell x = new RobotCell();
    twoArms(x);
    check.same("none that is to be removed", x.setInterlock(0, 4, false), false);
    check.same("two zones of one arm", x.setInterlock(0, 1, true), false);
    check.same("a zone that is held and one that is not", x.setInterlock(0, 2, true), false);
    check.same("a zone that is not held and one that is", x.setInterlock(7, 4, true), false);
    check.same("zones that are not held", x.setInterlock(5, 6, true), false);
    check.same("made again", x.setInterlock(1, 0, true), true);
  }

  @Says(at = "Promise 2: setInterlock", text = "If several exceptions apply, the one named first is thrown.")
  static void interlockWithSeveralFaults(Check check) {
    check.refused("no zone, twice the same", INDEX, CellTest::nothing, x -> x.setInterlock(8, 8, true));
    check.refused("no zone, below", INDEX, CellTest::nothing, x -> x.setInterlock(-1, -1, false));
    check.refused("the same zone, which is held", ARGUMENT, CellTest::twoArms, x -> x.setInterlock(4, 4, true));
    check.refused("a held zone and none", INDEX, CellTest::twoArms, x -> x.setInterlock(4, 8, true));
  }

  // ---- promise 3: setReach

  @Says(at = "Promise 3: setReach", text = "Sets the reach of an arm. Jobs that were given already do not change.")
  static void reachOfGivenJobs(Check check) {
    RobotCell x = new RobotCell();
    x.give(0, 12, 1, 0, -1, -1);
    x.give(0, 3, 1, 0, -1, -1);
    x.tick(1);
    x.setReach(0, 0);
    check.same("the reach", x.arm(0, 0), 0);
    check.same("the other reach", x.arm(1, 0), 255);
    check.sameRow("the row", i -> x.waiting(0, i), 1);
    check.same("the zone behind", x.wouldBe(0), 0);
    check.same("both jobs end", x.idleAfter(), 5);
    check.same("they end", x.tick(5), 2);
  }

  @Says(at = "Promise 3: setReach", text = "`zones`: the set of zones, bit z for zone z, 0 to 255")
  static void reachOfZones(Check check) {
    for (int i = 0; i < 8; i++) {
      int zone = i;
      RobotCell x = new RobotCell();
      x.setReach(1, 1 << zone);
      check.same("arms that reach " + zone, x.zone(zone, 2), 7);
      check.same("arms that reach another one", x.zone(7 - zone, 2), 5);
      check.same("a job in " + zone, x.give(1, zone + 1, 1, 0, -1, -1), 0);
      check.refused("a job in another one", UnsupportedOperationException.class, y -> y.setReach(1, 1 << zone),
          y -> y.give(1, 8 - zone, 1, 0, -1, -1));
    }
    RobotCell x = new RobotCell();
    check.same("no zones", x.setReach(0, 0), 255);
    check.same("all zones", x.setReach(0, 255), 0);
    check.same("all but one", x.setReach(0, 254), 255);
  }

  @Says(at = "Promise 3: setReach", text = "Returns the previous reach.")
  static void previousReach(Check check) {
    RobotCell x = new RobotCell();
    check.same("of arm 2", x.setReach(2, 1), 255);
    check.same("of arm 0", x.setReach(0, 2), 255);
    check.same("of arm 2 then", x.setReach(2, 3), 1);
    check.same("of arm 0 then", x.setReach(0, 2), 2);
    check.sameRow("reaches", a -> x.arm(a, 0), 2, 255, 3);
  }

  @Says(at = "Promise 3: setReach", text = "Throws `IndexOutOfBoundsException` if there is no such arm")
  static void reachOfNoArm(Check check) {
    for (int arm : NO_ARMS) {
      check.refused("arm " + arm, INDEX, CellTest::twoArms, x -> x.setReach(arm, 1));
    }
  }

  @Says(at = "Promise 3: setReach", text = "Throws `IllegalArgumentException` if the set is out of range")
  static void reachOutOfRange(Check check) {
    for (int zones : new int[] {-1, 256, 511, Integer.MIN_VALUE, Integer.MAX_VALUE}) {
      check.refused("set " + zones, ARGUMENT, CellTest::twoArms, x -> x.setReach(0, zones));
    }
  }

  @Says(at = "Promise 3: setReach", text = "If several exceptions apply, the one named first is thrown.")
  static void reachWithSeveralFaults(Check check) {
    check.refused("no arm, no set", INDEX, CellTest::nothing, x -> x.setReach(3, 256));
  }

  // ---- promise 4: setCapacity

  @Says(at = "Promise 4: setCapacity", text = "Sets the capacity of a buffer.")
  static void capacityOfABuffer(Check check) {
    RobotCell x = new RobotCell();
    x.setCapacity(1, 4);
    check.sameRow("capacities", b -> x.buffer(b, 0), 2, 4, 2);
    for (int i = 0; i < 4; i++) {
      check.same("part " + i, x.supply(1), i);
    }
    check.refused("a fifth part", STATE, y -> {
      y.setCapacity(1, 4);
      for (int i = 0; i < 4; i++) {
        y.supply(1);
      }
    }, y -> y.supply(1));
    x.setCapacity(2, 1);
    check.same("the only part", x.supply(2), 4);
    check.refused("a second part", STATE, y -> {
      y.setCapacity(2, 1);
      y.supply(2);
    }, y -> y.supply(2));
  }

  @Says(at = "Promise 4: setCapacity", text = "Returns the previous capacity.")
  static void previousCapacity(Check check) {
    RobotCell x = new RobotCell();
    check.same("of buffer 0", x.setCapacity(0, 4), 2);
    check.same("then", x.setCapacity(0, 1), 4);
    check.same("at last", x.setCapacity(0, 1), 1);
    check.same("of buffer 2", x.setCapacity(2, 3), 2);
  }

  @Says(at = "Promise 4: setCapacity", text = "Throws `IndexOutOfBoundsException` if there is no such buffer")
  static void capacityOfNoBuffer(Check check) {
    for (int buffer : NO_ARMS) {
      check.refused("buffer " + buffer, INDEX, CellTest::twoArms, x -> x.setCapacity(buffer, 3));
    }
  }

  @Says(at = "Promise 4: setCapacity", text = "Throws `IllegalArgumentException` if the capacity is out of range")
  static void capacityOutOfRange(Check check) {
    for (int capacity : new int[] {0, 5, -1, Integer.MIN_VALUE, Integer.MAX_VALUE}) {
      check.refused("capacity " + capacity, ARGUMENT, CellTest::twoArms, x -> x.setCapacity(0, capacity));
    }
    check.same("capacity 1", new RobotCell().setCapacity(0, 1), 2);
    check.same("capacity 4", new RobotCell().setCapacity(0, 4), 2);
  }

  @Says(at = "Promise 4: setCapacity",
      text = "Throws `IllegalStateException` if its parts and its promised places are more than this capacity")
  static void capacityBelowItsParts(Check check) {
    Calls partAndPlace = x -> {
      x.setCapacity(1, 4);
      x.supply(1);
      x.give(0, 1, 9, 0, -1, 1);
      x.tick(1);
    };
    check.refused("a part and a promised place, 1", STATE, partAndPlace, x -> x.setCapacity(1, 1));
    Calls twoParts = x -> {
      x.supply(2);
      x.supply(2);
    };
    check.refused("two parts, 1", STATE, twoParts, x -> x.setCapacity(2, 1));
    Calls twoPlaces = x -> {
      x.give(0, 1, 9, 0, -1, 0);
      x.give(1, 2, 9, 0, -1, 0);
      x.tick(1);
    };
    check.refused("two promised places, 1", STATE, twoPlaces, x -> x.setCapacity(0, 1));
    RobotCell x = new RobotCell();
    partAndPlace.on(x);
    check.same("a part and a promised place, 2", x.setCapacity(1, 2), 4);
    RobotCell y = new RobotCell();
    y.supply(0);
    y.give(0, 1, 9, 0, 0, -1);
    y.tick(1);
    check.same("a promised part counts once", y.setCapacity(0, 1), 2);
  }

  @Says(at = "Promise 4: setCapacity", text = "If several exceptions apply, the one named first is thrown.")
  static void capacityWithSeveralFaults(Check check) {
    check.refused("no buffer, no capacity", INDEX, CellTest::nothing, x -> x.setCapacity(3, 0));
    check.refused("no capacity, too low", ARGUMENT, x -> {
      x.supply(2);
      x.supply(2);
    }, x -> x.setCapacity(2, 0));
  }

  // ---- promise 5: supply

  @Says(at = "Promise 5: supply", text = "Puts a new part into a buffer, as the last one.")
  static void suppliedParts(Check check) {
    RobotCell x = new RobotCell();
    x.supply(1);
    x.supply(0);
    x.supply(1);
    check.sameRow("buffer 1", i -> x.part(1, i), 0, 2);
    check.sameRow("buffer 0", i -> x.part(0, i), 1);
    check.same("parts that came", x.buffer(1, 4), 2);
    check.same("new parts", x.account(4), 3);
  }

  @Says(at = "Promise 5: supply",
      text = "Returns the number of the part: the least one from 0 that no new part has had so far.")
  static void numbersOfParts(Check check) {
    RobotCell x = new RobotCell();
    check.same("first", x.supply(2), 0);
    check.same("second", x.supply(0), 1);
    x.give(0, 1, 1, 0, 2, -1);
    x.tick(2);
    check.same("a number of a part that is gone is not used again", x.supply(0), 2);
    x.give(0, 1, 1, 0, -1, 1);
    x.tick(2);
    check.same("the new part of a job", x.part(1, 0), 3);
    check.same("behind it", x.supply(1), 4);
    x.give(0, 1, 1, 0, 0, 2);
    x.tick(2);
    check.same("a part that came from a source is not new", x.supply(2), 5);
    x.undo();
    check.same("a part that was taken back is none", x.supply(2), 5);
  }

  @Says(at = "Promise 5: supply", text = "Throws `IndexOutOfBoundsException` if there is no such buffer")
  static void supplyOfNoBuffer(Check check) {
    for (int buffer : NO_ARMS) {
      check.refused("buffer " + buffer, INDEX, CellTest::twoArms, x -> x.supply(buffer));
    }
  }

  @Says(at = "Promise 5: supply", text = "Throws `IllegalStateException` if it has no room")
  static void supplyWithoutRoom(Check check) {
    check.refused("two parts", STATE, x -> {
      x.supply(0);
      x.supply(0);
    }, x -> x.supply(0));
    Calls partAndPlace = x -> {
      x.supply(1);
      x.give(2, 8, 9, 0, -1, 1);
      x.tick(1);
    };
    check.refused("a part and a promised place", STATE, partAndPlace, x -> x.supply(1));
    RobotCell x = new RobotCell();
    partAndPlace.on(x);
    x.setCapacity(1, 3);
    check.same("the last place", x.supply(1), 1);
    RobotCell y = new RobotCell();
    y.supply(0);
    y.give(0, 1, 1, 0, 0, -1);
    y.supply(0);
    y.tick(1);
    check.refused("a promised part has not left yet", STATE, z -> {
      z.supply(0);
      z.supply(0);
      z.give(0, 1, 1, 0, 0, -1);
      z.tick(1);
    }, z -> z.supply(0));
    y.tick(1);
    check.same("the part left", y.supply(0), 2);
  }

  // ---- promise 6: zone

  @Says(at = "Promise 6: zone", text = "0 the arm that holds it, -1 for none")
  static void holders(Check check) {
    RobotCell x = new RobotCell();
    x.setInterlock(0, 6, true);
    twoArms(x);
    check.sameRow("holders", z -> x.zone(z, 0), 0, 0, -1, -1, 1, -1, -1, -1);
    RobotCell y = new RobotCell();
    y.give(2, 8, 1, 0, -1, -1);
    y.tick(1);
    check.same("held by arm 2", y.zone(7, 0), 2);
    y.tick(1);
    check.same("let go", y.zone(7, 0), -1);
  }

  @Says(at = "Promise 6: zone", text = "1 the set of zones that conflict with it, itself included")
  static void conflictsOfZones(Check check) {
    RobotCell x = new RobotCell();
    check.sameRow("at first", z -> x.zone(z, 1), 1, 2, 4, 8, 16, 32, 64, 128);
    for (int z = 1; z < 8; z++) {
      x.setInterlock(0, z, true);
    }
    check.sameRow("of 0 with all", z -> x.zone(z, 1), 255, 3, 5, 9, 17, 33, 65, 129);
    x.setInterlock(4, 0, false);
    check.sameRow("without 4", z -> x.zone(z, 1), 255 - 16, 3, 5, 9, 16, 33, 65, 129);
  }

  @Says(at = "Promise 6: zone", text = "2 the set of arms in whose reach it is")
  static void reachingArms(Check check) {
    RobotCell x = new RobotCell();
    x.setReach(0, 1 | 2);
    x.setReach(1, 1 | 4 | 128);
    x.setReach(2, 1 | 128);
    check.sameRow("arms", z -> x.zone(z, 2), 7, 1, 2, 0, 0, 0, 0, 6);
  }

  @Says(at = "Promise 6: zone", text = "3 the set of arms that hold a zone that conflicts with it")
  static void holdersOfConflicts(Check check) {
    RobotCell x = new RobotCell();
    x.setInterlock(7, 0, true);
    x.setInterlock(7, 4, true);
    x.setInterlock(6, 7, true);
    twoArms(x);
    check.sameRow("arms", z -> x.zone(z, 3), 1, 1, 0, 0, 2, 0, 0, 3);
  }

  @Says(at = "Promise 6: zone", text = "4 the number of ticks at whose end it was held so far")
  static void ticksHeld(Check check) {
    RobotCell x = new RobotCell();
    x.give(2, 18, 1, 4, -1, -1);
    int[] first = {0, 1, 2, 3, 3, 3, 3};
    int[] second = {0, 0, 1, 2, 3, 3, 3};
    for (int time = 0; time < first.length; time++) {
      check.same("zone 0 at " + time, x.zone(0, 4), first[time]);
      check.same("zone 7 at " + time, x.zone(7, 4), second[time]);
      check.same("zone 3 at " + time, x.zone(3, 4), 0);
      x.tick(1);
    }
    x.give(1, 1, 2, 0, -1, -1);
    x.tick(5);
    check.same("zone 0, held by another arm", x.zone(0, 4), 5);
  }

  @Says(at = "Promise 6: zone", text = "Throws `IndexOutOfBoundsException` if there is no such zone")
  static void aboutNoZone(Check check) {
    for (int zone : NO_ZONES) {
      for (int i = 0; i < 5; i++) {
        int what = i;
        check.refused("zone " + zone + ", " + i, INDEX, CellTest::twoArms, x -> x.zone(zone, what));
      }
    }
  }

  @Says(at = "Promise 6: zone", text = "Throws `IllegalArgumentException` if what is out of range")
  static void zoneWithoutWhat(Check check) {
    for (int what : new int[] {-1, 5, Integer.MIN_VALUE, Integer.MAX_VALUE}) {
      check.refused("what " + what, ARGUMENT, CellTest::twoArms, x -> x.zone(7, what));
    }
  }

  @Says(at = "Promise 6: zone", text = "If several exceptions apply, the one named first is thrown.")
  static void zoneWithSeveralFaults(Check check) {
    check.refused("no zone, no what", INDEX, CellTest::nothing, x -> x.zone(8, 5));
  }

  // ---- promise 7: buffer

  @Says(at = "Promise 7: buffer",
      text = "0 its capacity; 1 the number of its parts; 2 the number of its promised places; 3 the number of its"
          + " promised parts; 4 the number of parts that have come into it so far; 5 the number of parts that have"
          + " left it so far")
  static void aboutBuffers(Check check) {
    RobotCell x = new RobotCell();
    x.setCapacity(1, 3);
    x.supply(0);
    x.supply(0);
    x.give(0, 1, 2, 0, 0, 1);
    check.sameRow("source before the start", what -> x.buffer(0, what), 2, 2, 0, 0, 2, 0);
    check.sameRow("target before the start", what -> x.buffer(1, what), 3, 0, 0, 0, 0, 0);
    x.tick(1);
    check.sameRow("source", what -> x.buffer(0, what), 2, 2, 0, 1, 2, 0);
    check.sameRow("target", what -> x.buffer(1, what), 3, 0, 1, 0, 0, 0);
    x.tick(2);
    check.sameRow("source then", what -> x.buffer(0, what), 2, 1, 0, 0, 2, 1);
    check.sameRow("target then", what -> x.buffer(1, what), 3, 1, 0, 0, 1, 0);
    check.sameRow("neither", what -> x.buffer(2, what), 2, 0, 0, 0, 0, 0);
  }

  @Says(at = "Promise 7: buffer", text = "Throws `IndexOutOfBoundsException` if there is no such buffer")
  static void aboutNoBuffer(Check check) {
    for (int buffer : NO_ARMS) {
      for (int i = 0; i < 6; i++) {
        int what = i;
        check.refused("buffer " + buffer + ", " + i, INDEX, CellTest::twoArms, x -> x.buffer(buffer, what));
      }
    }
  }

  @Says(at = "Promise 7: buffer", text = "Throws `IllegalArgumentException` if what is out of range")
  static void bufferWithoutWhat(Check check) {
    for (int what : new int[] {-1, 6, Integer.MIN_VALUE, Integer.MAX_VALUE}) {
      check.refused("what " + what, ARGUMENT, CellTest::twoArms, x -> x.buffer(2, what));
    }
  }

  @Says(at = "Promise 7: buffer", text = "If several exceptions apply, the one named first is thrown.")
  static void bufferWithSeveralFaults(Check check) {
    check.refused("no buffer, no what", INDEX, CellTest::nothing, x -> x.buffer(3, 6));
  }

  // ---- promise 8: part

  @Says(at = "Promise 8: part", text = "`i`: its place, 0 for the first one")
  static void placesOfParts(Check check) {
    RobotCell x = new RobotCell();
    x.setCapacity(0, 4);
    for (int i = 0; i < 4; i++) {
      x.supply(0);
    }
    check.sameRow("parts", i -> x.part(0, i), 0, 1, 2, 3);
    x.give(0, 1, 1, 0, 0, -1);
    x.tick(2);
    check.sameRow("parts behind the one that left", i -> x.part(0, i), 1, 2, 3);
  }

  @Says(at = "Promise 8: part", text = "Throws `IndexOutOfBoundsException` if there is no such buffer")
  static void partOfNoBuffer(Check check) {
    for (int buffer : NO_ARMS) {
      check.refused("buffer " + buffer, INDEX, x -> x.supply(2), x -> x.part(buffer, 0));
    }
  }

  @Says(at = "Promise 8: part", text = "Throws `NoSuchElementException` if there is no such place")
  static void partOfNoPlace(Check check) {
    Calls threeParts = x -> {
      x.setCapacity(0, 4);
      x.supply(0);
      x.supply(0);
      x.supply(0);
    };
    for (int place : new int[] {-1, 3, 4, Integer.MIN_VALUE, Integer.MAX_VALUE}) {
      check.refused("place " + place + " of three", NO_SUCH, threeParts, x -> x.part(0, place));
    }
    check.refused("an empty buffer", NO_SUCH, CellTest::nothing, x -> x.part(0, 0));
    check.refused("a full one", NO_SUCH, x -> {
      threeParts.on(x);
      x.supply(0);
    }, x -> x.part(0, 4));
    check.refused("a promised place holds no part", NO_SUCH, x -> {
      x.give(0, 1, 9, 0, -1, 1);
      x.tick(1);
    }, x -> x.part(1, 0));
    check.refused("the part left", NO_SUCH, x -> {
      x.supply(1);
      x.give(0, 1, 1, 0, 1, -1);
      x.tick(2);
    }, x -> x.part(1, 0));
  }

  @Says(at = "Promise 8: part", text = "If several exceptions apply, the one named first is thrown.")
  static void partWithSeveralFaults(Check check) {
    check.refused("no buffer, no place", INDEX, CellTest::nothing, x -> x.part(3, -1));
  }
}
