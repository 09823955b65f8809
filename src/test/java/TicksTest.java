/** Ticks, what arms do in them, ends of jobs and the log: those paragraphs and promises 14 and 20. */
public final class TicksTest {
  private static final Class<IndexOutOfBoundsException> INDEX = IndexOutOfBoundsException.class;
  private static final Class<IllegalArgumentException> ARGUMENT = IllegalArgumentException.class;

  public static void main(String[] args) {
    Sentences.run(TicksTest.class);
  }

  private static void nothing(RobotCell x) {}

  /** A job of one zone, which is started and ended by two ticks. */
  private static void endJob(RobotCell x) {
    x.give(0, 1, 1, 0, -1, -1);
    x.tick(2);
  }

  /** Demands the arms of the latest entries, the last one last. */
  private static void lastArms(Check check, RobotCell x, int... arms) {
    int first = x.account(7) - arms.length;
    check.sameRow("arms of the latest entries", i -> x.entry(first + i, 1), arms);
  }

  // ---- ticks

  @Says(at = "Description, Ticks",
      text = "In a tick, the time, at first 0, increases by 1, and then each arm acts once.")
  static void timeAndActions(Check check) {
    RobotCell x = new RobotCell();
    x.give(2, 1, 2, 0, -1, -1);
    x.give(0, 2, 2, 0, -1, -1);
    x.give(1, 3, 2, 0, -1, -1);
    check.same("time at first", x.account(0), 0);
    x.tick(1);
    check.same("time", x.account(0), 1);
    check.sameRow("times of the starts", i -> x.entry(i, 0), 1, 1, 1);
    check.sameRow("ticks to go", a -> x.arm(a, 5), 2, 2, 2);
    x.tick(1);
    check.same("time then", x.account(0), 2);
    check.sameRow("ticks to go then", a -> x.arm(a, 5), 1, 1, 1);
  }

  @Says(at = "Description, Ticks",
      text = "The order in which the arms act is found at the beginning of the tick: arms with a greater patience come"
          + " first, and for the same patience arms with lower numbers.")
  static void orderOfArms(Check check) {
    RobotCell x = new RobotCell();
    x.give(2, 1, 1, 0, 0, -1);
    x.tick(1);
    x.give(1, 2, 1, 0, 1, -1);
    x.tick(1);
    x.give(0, 3, 1, 0, -1, -1);
    x.supply(0);
    x.supply(1);
    check.sameRow("patience", a -> x.arm(a, 6), 0, 1, 2);
    x.tick(1);
    lastArms(check, x, 2, 1, 0);
    x.tick(1);
    lastArms(check, x, 0, 1, 2);
    RobotCell y = new RobotCell();
    y.give(1, 1, 1, 0, 0, -1);
    y.give(2, 2, 1, 0, 1, -1);
    y.tick(3);
    y.give(0, 3, 1, 0, -1, -1);
    y.supply(0);
    y.supply(1);
    y.tick(1);
    lastArms(check, y, 1, 2, 0);
  }

  @Says(at = "Description, Ticks",
      text = "The patience of an arm is the number of ticks directly before this one in which it was refused something,"
          + " 0 if it was not refused anything in the tick before.")
  static void patience(Check check) {
    RobotCell x = new RobotCell();
    x.give(1, 1, 1, 0, 0, -1);
    for (int tick = 1; tick <= 60; tick++) {
      x.tick(1);
      check.same("refused in each tick", x.arm(1, 6), tick);
    }
    x.supply(0);
    x.tick(1);
    check.same("granted", x.arm(1, 6), 0);
    x.give(1, 1, 1, 0, 0, -1);
    x.tick(1);
    check.same("the job ended", x.arm(1, 6), 0);
    x.tick(2);
    check.same("refused anew", x.arm(1, 6), 2);
    x.withdraw(1);
    check.same("no tick has passed", x.arm(1, 6), 2);
    x.tick(1);
    check.same("no request", x.arm(1, 6), 0);
    x.give(1, 1, 1, 0, 0, -1);
    x.tick(1);
    check.same("refused behind a tick without a request", x.arm(1, 6), 1);
  }

  // ---- acting

  @Says(at = "Description, Acting", text = "An idle arm whose row is empty does nothing.")
  static void idleArms(Check check) {
    RobotCell x = new RobotCell();
    x.tick(50);
    check.sameRow("accounts", x::account, 50, 0, 0, 0, 0, 0, 0, 0, 0, 0);
    for (int i = 0; i < 3; i++) {
      int arm = i;
      check.sameRow("arm " + i, what -> x.arm(arm, what), 255, 0, -1, 0, -1, 0, 0, 0, 0, 0);
    }
  }

  @Says(at = "Description, Acting", text = "An idle arm with a job in its row requests to start the first one.")
  static void onlyTheFirstJob(Check check) {
    RobotCell x = new RobotCell();
    x.give(0, 1, 1, 0, 0, -1);
    x.give(0, 2, 1, 0, -1, -1);
    x.tick(3);
    check.same("the first one is refused", x.arm(0, 8), 3);
    check.same("the second one is not started", x.job(1, 6), 0);
    check.sameRow("the row stays", i -> x.waiting(0, i), 0, 1);
    x.supply(0);
    x.tick(1);
    check.sameRow("states", j -> x.job(j, 6), 1, 0);
  }

  @Says(at = "Description, Acting",
      text = "If that is granted, the job leaves the row and is active, a part of the source is promised if there is a"
          + " source, a place of the target is promised if there is a target, and the arm works in the first zone of"
          + " the path, for as many ticks as the work of the job, of which this one is not the first.")
  static void start(Check check) {
    for (int work = 1; work <= 9; work += 4) {
      RobotCell x = new RobotCell();
      x.supply(0);
      x.give(2, 61, work, 9, 0, 1);
      x.tick(1);
      check.sameRow("the arm", what -> x.arm(2, what), 255, 1, 0, 0, 5, work, 0, 32, 0, 1);
      check.same("promised parts", x.buffer(0, 3), 1);
      check.same("the part is still there", x.buffer(0, 1), 1);
      check.same("promised places", x.buffer(1, 2), 1);
      check.sameRow("no other promises", b -> x.buffer(b, 2) + 10 * x.buffer(b, 3), 10, 1, 0);
      x.tick(work - 1 > 0 ? work - 1 : 1);
      check.same("the last tick of the work", x.arm(2, 1), work > 1 ? 1 : 2);
    }
    RobotCell y = new RobotCell();
    y.give(0, 1, 1, 0, -1, -1);
    y.tick(1);
    check.sameRow("no promises without source and target", b -> y.buffer(b, 2) + y.buffer(b, 3), 0, 0, 0);
  }

  @Says(at = "Description, Acting",
      text = "An arm that works has one tick less to go; if none is left, it requests the next zone in the same action,"
          + " or its job ends if there is none.")
  static void work(Check check) {
    RobotCell x = new RobotCell();
    x.give(0, 13, 3, 0, -1, -1);
    int[] states = {0, 1, 1, 1, 2, 1, 1, 1, 0};
    int[] ticks = {0, 3, 2, 1, 1, 3, 2, 1, 0};
    for (int time = 0; time < states.length; time++) {
      check.same("state at " + time, x.arm(0, 1), states[time]);
      check.same("ticks to go at " + time, x.arm(0, 5), ticks[time]);
      x.tick(1);
    }
    check.same("time of the end", x.job(0, 8), 8);
    RobotCell y = new RobotCell();
    y.give(0, 1, 1, 0, -1, -1);
    y.give(0, 1, 1, 0, -1, -1);
    y.tick(2);
    check.same("the next job is not started in the action of the end", y.arm(0, 1), 0);
    y.tick(1);
    check.same("but in the next tick", y.job(1, 7), 3);
  }

  @Says(at = "Description, Acting", text = "An arm that waits requests the next zone.")
  static void waiting(Check check) {
    RobotCell x = new RobotCell();
    x.give(0, 2, 3, 0, -1, -1);
    x.give(1, 12, 1, 0, -1, -1);
    x.tick(2);
    for (int time = 2; time < 5; time++) {
      check.same("waits at " + time, x.arm(1, 1), 3);
      check.same("refused at " + time, x.arm(1, 8), time - 1);
      x.tick(1);
    }
    check.same("moves", x.arm(1, 1), 2);
    check.same("not refused any more", x.arm(1, 8), 3);
  }

  @Says(at = "Description, Acting",
      text = "If the next zone is granted, the arm moves, and the duration of the move is found then: 1, plus the weight"
          + " of the job divided by 4 and rounded down, plus 1 if another arm holds a neighbor of the next zone. This"
          + " tick is not one of them.")
  static void durationOfMoves(Check check) {
    int[] due = {1, 1, 1, 1, 2, 2, 2, 2, 3, 3};
    for (int weight = 0; weight < 10; weight++) {
      RobotCell x = new RobotCell();
      x.give(0, 13, 1, weight, -1, -1);
      x.tick(2);
      check.same("moves with weight " + weight, x.arm(0, 1), 2);
      check.same("ticks with weight " + weight, x.arm(0, 5), due[weight]);
      x.tick(due[weight] - 1 > 0 ? due[weight] - 1 : 1);
      check.same("the last tick with weight " + weight, x.arm(0, 1), due[weight] > 1 ? 2 : 1);
      RobotCell y = new RobotCell();
      y.give(1, 4, 9, 0, -1, -1);
      y.give(2, 2, 9, 0, -1, -1);
      y.give(0, 13, 1, weight, -1, -1);
      y.tick(2);
      check.same("ticks between two neighbors", y.arm(0, 5), due[weight] + 1);
    }
    RobotCell z = new RobotCell();
    z.give(0, 12, 1, 0, -1, -1);
    z.tick(2);
    check.same("the arm's own zone is no other arm's", z.arm(0, 5), 1);
    RobotCell w = new RobotCell();
    w.give(1, 3, 9, 0, -1, -1);
    w.setInterlock(0, 4, true);
    w.give(0, 15, 1, 0, -1, -1);
    w.tick(2);
    check.same("an interlock makes no neighbors", w.arm(0, 5), 1);
  }

  @Says(at = "Description, Details",
      text = "Whether another arm holds a neighbor is asked as zones are held at this moment of the tick.")
  static void neighborsAtThisMoment(Check check) {
    RobotCell x = new RobotCell();
    x.give(0, 47, 1, 0, -1, -1);
    x.give(1, 13, 1, 0, -1, -1);
    x.tick(2);
    check.same("arm 0 moves from 3 to 6", x.arm(0, 7), 8 | 64);
    check.same("3, from which it moves, is a neighbor of 2", x.arm(1, 5), 2);
    x.tick(1);
    check.same("the duration stays though 3 is let go", x.arm(1, 5), 1);
    RobotCell y = new RobotCell();
    y.give(0, 36, 1, 0, -1, -1);
    y.give(2, 17, 1, 0, -1, -1);
    y.tick(2);
    check.same("arm 0 was granted 5 before arm 2 in the same tick", y.arm(2, 5), 2);
    RobotCell z = new RobotCell();
    z.give(0, 5, 1, 0, -1, -1);
    z.give(1, 16, 1, 0, -1, -1);
    z.tick(2);
    check.same("arm 0 let 4 go before in the same tick", z.arm(1, 5), 1);
    RobotCell w = new RobotCell();
    w.give(0, 16, 1, 0, -1, -1);
    w.give(1, 5, 1, 0, -1, -1);
    w.tick(2);
    check.same("arm 1 lets 4 go behind in the same tick", w.arm(0, 5), 2);
    check.same("and is idle then", w.arm(1, 1), 0);
  }

  @Says(at = "Description, Acting", text = "If it is refused, the arm waits.")
  static void refusedZone(Check check) {
    RobotCell x = new RobotCell();
    x.give(0, 2, 9, 0, -1, -1);
    x.give(1, 12, 2, 9, -1, -1);
    x.tick(2);
    check.same("works", x.arm(1, 1), 1);
    x.tick(1);
    check.sameRow("waits", what -> x.arm(1, what), 255, 3, 1, 0, 0, 0, 1, 1, 1, 3);
    x.tick(1);
    check.sameRow("waits on", what -> x.arm(1, what), 255, 3, 1, 0, 0, 0, 2, 1, 2, 4);
    RobotCell y = new RobotCell();
    y.give(0, 1, 1, 0, 1, -1);
    y.tick(1);
    check.same("a start that is refused leaves it idle", y.arm(0, 1), 0);
  }

  @Says(at = "Description, Acting",
      text = "An arm that moves has one tick less to go; if none is left, it does not hold the former zone any more, and"
          + " works in the next one, for as many ticks as the work of the job, of which this one is not the first.")
  static void move(Check check) {
    RobotCell x = new RobotCell();
    x.give(0, 162, 2, 4, -1, -1);
    int[] states = {0, 1, 1, 2, 2, 1, 1, 2, 2, 1, 1, 0};
    int[] ticks = {0, 2, 1, 2, 1, 2, 1, 2, 1, 2, 1, 0};
    int[] zones = {-1, 0, 0, 0, 0, 5, 5, 5, 5, 1, 1, -1};
    int[] held = {0, 1, 1, 33, 33, 32, 32, 34, 34, 2, 2, 0};
    for (int time = 0; time < states.length; time++) {
      check.same("state at " + time, x.arm(0, 1), states[time]);
      check.same("ticks to go at " + time, x.arm(0, 5), ticks[time]);
      check.same("zone at " + time, x.arm(0, 4), zones[time]);
      check.same("held zones at " + time, x.arm(0, 7), held[time]);
      x.tick(1);
    }
  }

  // ---- ends

  @Says(at = "Description, Ends", text = "When a job ends, the arm is idle and holds nothing.")
  static void armAtTheEnd(Check check) {
    RobotCell x = new RobotCell();
    x.give(1, 78, 1, 0, -1, -1);
    x.tick(3);
    check.same("works in the last zone", x.arm(1, 7), 128);
    x.tick(1);
    check.sameRow("the arm", what -> x.arm(1, what), 255, 0, -1, 0, -1, 0, 0, 0, 0, 3);
    check.sameRow("holders of 6 and 7", k -> x.zone(6 + k, 0), -1, -1);
  }

  @Says(at = "Description, Ends",
      text = "If there is a source, the first part of it leaves it, and that part is not promised any more.")
  static void sourceAtTheEnd(Check check) {
    RobotCell x = new RobotCell();
    x.setCapacity(0, 3);
    x.supply(0);
    x.supply(0);
    x.supply(0);
    x.give(0, 1, 1, 0, 0, -1);
    x.give(1, 2, 3, 0, 0, -1);
    x.tick(1);
    check.sameRow("buffer with two promised parts", what -> x.buffer(0, what), 3, 3, 0, 2, 3, 0);
    x.tick(1);
    check.sameRow("the first job ended", what -> x.buffer(0, what), 3, 2, 0, 1, 3, 1);
    check.sameRow("its parts", i -> x.part(0, i), 1, 2);
    x.tick(2);
    check.sameRow("the second job ended", what -> x.buffer(0, what), 3, 1, 0, 0, 3, 2);
    check.sameRow("its only part", i -> x.part(0, i), 2);
  }

  @Says(at = "Description, Ends",
      text = "If there is a target, a part comes into it as the last one, in place of the promised place: the part of"
          + " the source, or, without a source, a new part, which has the least number from 0 that no new part has had"
          + " so far.")
  static void targetAtTheEnd(Check check) {
    RobotCell x = new RobotCell();
    x.setCapacity(2, 4);
    x.supply(2);
    x.supply(0);
    x.give(0, 1, 1, 0, 0, 2);
    x.give(1, 2, 2, 0, -1, 2);
    x.tick(1);
    check.sameRow("target with two promised places", what -> x.buffer(2, what), 4, 1, 2, 0, 1, 0);
    x.tick(1);
    check.sameRow("the part of the source came", what -> x.buffer(2, what), 4, 2, 1, 0, 2, 0);
    check.sameRow("its parts", i -> x.part(2, i), 0, 1);
    check.same("no new part", x.account(4), 2);
    x.tick(1);
    check.sameRow("a new part came", what -> x.buffer(2, what), 4, 3, 0, 0, 3, 0);
    check.sameRow("its parts then", i -> x.part(2, i), 0, 1, 2);
    check.same("a new part", x.account(4), 3);
    RobotCell y = new RobotCell();
    y.setCapacity(1, 3);
    y.supply(1);
    y.supply(1);
    y.give(0, 1, 1, 0, 1, 1);
    y.tick(2);
    check.sameRow("source and target are the same", i -> y.part(1, i), 1, 0);
    check.sameRow("it came and left", what -> y.buffer(1, what), 3, 2, 0, 0, 3, 1);
  }

  @Says(at = "Description, Ends", text = "Without a target, the part of the source is gone.")
  static void partsThatAreGone(Check check) {
    RobotCell x = new RobotCell();
    x.supply(0);
    x.supply(0);
    endJob(x);
    check.same("neither source nor target", x.account(6), 0);
    x.give(0, 1, 1, 0, 0, 1);
    x.tick(2);
    check.same("with a target", x.account(6), 0);
    x.give(0, 1, 1, 0, 0, -1);
    x.tick(2);
    check.same("without a target", x.account(6), 1);
    check.same("parts in all buffers", x.account(5), 1);
    x.give(0, 1, 1, 0, -1, 2);
    x.tick(2);
    check.same("a new part is not gone", x.account(6), 1);
    check.same("parts in all buffers then", x.account(5), 2);
  }

  // ---- promise 14: tick

  @Says(at = "Promise 14: tick", text = "`ticks`: the number of ticks, 1 to 50")
  static void numberOfTicks(Check check) {
    for (int ticks = 1; ticks <= 50; ticks++) {
      RobotCell x = new RobotCell();
      x.tick(ticks);
      check.same("time", x.account(0), ticks);
    }
    Calls jobs = x -> {
      x.give(0, 12345, 9, 9, -1, -1);
      x.give(1, 54321, 2, 3, -1, -1);
      x.give(2, 13531, 1, 0, -1, 0);
    };
    Calls oneByOne = x -> {
      for (int i = 0; i < 50; i++) {
        x.tick(1);
      }
    };
    check.sameText("fifty ticks at once or one by one", View.of(jobs.then(x -> x.tick(50))),
        View.of(jobs.then(oneByOne)));
  }

  @Says(at = "Promise 14: tick", text = "Returns the number of jobs that ended in them.")
  static void endedJobs(Check check) {
    RobotCell x = new RobotCell();
    x.give(0, 1, 1, 0, -1, -1);
    x.give(0, 1, 1, 0, -1, -1);
    x.give(1, 3, 2, 0, -1, -1);
    x.give(2, 5, 9, 0, -1, -1);
    x.give(2, 5, 1, 0, -1, -1);
    x.withdraw(2);
    check.same("ticks 1 to 3", x.tick(3), 2);
    check.same("tick 4", x.tick(1), 1);
    check.same("ticks 5 to 9", x.tick(5), 0);
    check.same("tick 10", x.tick(1), 1);
    check.same("ticks 11 to 60", x.tick(50), 0);
    RobotCell y = new RobotCell();
    for (int i = 0; i < 30; i++) {
      y.give(i % 3, 1 + i % 3, 1, 0, -1, -1);
    }
    check.same("30 jobs at once", y.tick(20), 30);
  }

  @Says(at = "Promise 14: tick", text = "Throws `IllegalArgumentException` if the number is out of range")
  static void ticksOutOfRange(Check check) {
    for (int ticks : new int[] {0, 51, -1, 52, Integer.MIN_VALUE, Integer.MAX_VALUE}) {
      check.refused(ticks + " ticks", ARGUMENT, x -> x.give(0, 12, 1, 0, -1, -1), x -> x.tick(ticks));
    }
  }

  // ---- the log and promise 20: entry

  @Says(at = "Description, Log",
      text = "Each grant of a start (0), grant of a next zone (1), release of a former zone (2) and end of a job (3) is"
          + " an entry of the log, with the time, the arm and the zone: the first one, the next one, the former one, or"
          + " the last one of the path.")
  static void kindsOfEntries(Check check) {
    RobotCell x = new RobotCell();
    x.tick(2);
    x.give(1, 852, 2, 4, -1, -1);
    x.tick(20);
    int[][] due = {{3, 1, 0, 7}, {5, 1, 1, 4}, {7, 1, 2, 7}, {9, 1, 1, 1}, {11, 1, 2, 4}, {13, 1, 3, 1}};
    check.same("entries", x.account(7), due.length);
    for (int i = 0; i < due.length; i++) {
      int entry = i;
      check.sameRow("entry " + i, what -> x.entry(entry, what), due[i]);
    }
    x.give(2, 1, 1, 0, 0, -1);
    x.tick(3);
    check.same("a refusal is no entry", x.account(7), due.length);
  }

  @Says(at = "Description, Details", text = "When a job ends, the zone that is let go has no entry of its own.")
  static void noEntryForTheLastZone(Check check) {
    RobotCell x = new RobotCell();
    endJob(x);
    check.same("entries", x.account(7), 2);
    check.sameRow("the end", what -> x.entry(1, what), 2, 0, 3, 0);
  }

  @Says(at = "Description, Log",
      text = "The latest 24 entries are kept, numbered from 0, the oldest one first.")
  static void latestEntries(Check check) {
    RobotCell x = new RobotCell();
    for (int i = 0; i < 30; i++) {
      x.give(0, 1 + i % 8, 1, 0, -1, -1);
    }
    for (int made = 1; made <= 60; made++) {
      x.tick(1);
      int kept = made < 24 ? made : 24;
      check.same("kept of " + made, x.account(7), kept);
      check.same("time of the oldest one of " + made, x.entry(0, 0), made - kept + 1);
      check.same("time of the latest one of " + made, x.entry(kept - 1, 0), made);
      check.same("its zone", x.entry(kept - 1, 3), (made - 1) / 2 % 8);
      check.same("its kind", x.entry(kept - 1, 2), made % 2 == 1 ? 0 : 3);
    }
    check.sameRow("times at last", i -> x.entry(i, 0), 37, 38, 39, 40, 41, 42, 43, 44, 45, 46, 47, 48, 49, 50, 51,
        52, 53, 54, 55, 56, 57, 58, 59, 60);
    x.undo();
    check.same("the oldest one after undo", x.entry(0, 0), 36);
  }

  @Says(at = "Promise 20: entry", text = "`what`: 0 the time; 1 the arm; 2 the kind; 3 the zone")
  static void partsOfEntries(Check check) {
    RobotCell x = new RobotCell();
    x.give(2, 7, 3, 0, -1, -1);
    x.tick(4);
    check.sameRow("the start", what -> x.entry(0, what), 1, 2, 0, 6);
    check.sameRow("the end", what -> x.entry(1, what), 4, 2, 3, 6);
  }

  @Says(at = "Promise 20: entry", text = "Throws `IndexOutOfBoundsException` if there is no such entry")
  static void noSuchEntry(Check check) {
    check.refused("an empty log", INDEX, TicksTest::nothing, x -> x.entry(0, 0));
    for (int i : new int[] {-1, 2, 3, 24, Integer.MIN_VALUE, Integer.MAX_VALUE}) {
      check.refused("entry " + i + " of two", INDEX, TicksTest::endJob, x -> x.entry(i, 1));
    }
    Calls fullLog = x -> {
      for (int i = 0; i < 13; i++) {
        endJob(x);
      }
    };
    check.refused("entry 24 of a full log", INDEX, fullLog, x -> x.entry(24, 0));
    check.refused("entry -1 of a full log", INDEX, fullLog, x -> x.entry(-1, 0));
  }

  @Says(at = "Promise 20: entry", text = "Throws `IllegalArgumentException` if what is out of range")
  static void entryWithoutWhat(Check check) {
    for (int what : new int[] {-1, 4, Integer.MIN_VALUE, Integer.MAX_VALUE}) {
      check.refused("what " + what, ARGUMENT, TicksTest::endJob, x -> x.entry(1, what));
    }
  }

  @Says(at = "Promise 20: entry", text = "If several exceptions apply, the one named first is thrown.")
  static void entryWithSeveralFaults(Check check) {
    check.refused("no entry, no what", INDEX, TicksTest::nothing, x -> x.entry(0, 4));
  }
}
