import java.util.NoSuchElementException;

/** Promises 1 to 8: a new object, interlocks, reaches, capacities, parts. */
public final class CellTest {
  private static final Check CHECK = new Check();
  private static final Class<IndexOutOfBoundsException> INDEX = IndexOutOfBoundsException.class;
  private static final Class<IllegalArgumentException> ARGUMENT = IllegalArgumentException.class;
  private static final Class<IllegalStateException> STATE = IllegalStateException.class;
  private static final Class<NoSuchElementException> NO_SUCH = NoSuchElementException.class;

  public static void main(String[] args) {
    newObject();
    setInterlock();
    setInterlockOfHeldZones();
    setReach();
    setCapacity();
    supply();
    zone();
    zoneWhileMoving();
    buffer();
    part();
    CHECK.end();
  }

  private static void newObject() {
    RobotCell x = new RobotCell();
    for (int what = 0; what < 10; what++) {
      CHECK.same("new account " + what, x.account(what), 0);
    }
    for (int z = 0; z < 8; z++) {
      CHECK.same("new zone holder", x.zone(z, 0), -1);
      CHECK.same("new zone conflicts", x.zone(z, 1), 1 << z);
      CHECK.same("new zone reach", x.zone(z, 2), 7);
      CHECK.same("new zone holders", x.zone(z, 3), 0);
      CHECK.same("new zone ticks", x.zone(z, 4), 0);
    }
    for (int b = 0; b < 3; b++) {
      CHECK.same("new capacity", x.buffer(b, 0), 2);
      for (int what = 1; what < 6; what++) {
        CHECK.same("new buffer " + what, x.buffer(b, what), 0);
      }
    }
    int[] arm = {255, 0, -1, 0, -1, 0, 0, 0, 0, 0};
    for (int a = 0; a < 3; a++) {
      for (int what = 0; what < 10; what++) {
        CHECK.same("new arm " + what, x.arm(a, what), arm[what]);
      }
    }
    CHECK.same("new isSafe", x.isSafe(), true);
    CHECK.same("new idleAfter", x.idleAfter(), 0);
    CHECK.throwing("new undo", STATE, () -> x.undo());
    CHECK.throwing("new restore", STATE, () -> x.restore());
    CHECK.same("new perform", x.perform(), -100);
  }

  private static void setInterlock() {
    RobotCell x = new RobotCell();
    CHECK.same("made anew", x.setInterlock(7, 0, true), false);
    CHECK.same("made again", x.setInterlock(0, 7, true), true);
    CHECK.same("conflicts of 0", x.zone(0, 1), 1 | 128);
    CHECK.same("conflicts of 7", x.zone(7, 1), 1 | 128);
    CHECK.same("interlocks", x.account(9), 1);
    CHECK.same("second one", x.setInterlock(0, 3, true), false);
    CHECK.same("interlocks of two", x.account(9), 2);
    CHECK.same("conflicts are no chain", x.zone(3, 1), 1 | 8);
    CHECK.same("removed", x.setInterlock(7, 0, false), true);
    CHECK.same("removed again", x.setInterlock(7, 0, false), false);
    CHECK.same("interlocks afterwards", x.account(9), 1);
    CHECK.same("conflicts afterwards", x.zone(0, 1), 1 | 8);
    CHECK.throwing("zone -1", INDEX, () -> x.setInterlock(-1, -1, true));
    CHECK.throwing("zone 8", INDEX, () -> x.setInterlock(8, 8, false));
    CHECK.throwing("other 8", INDEX, () -> x.setInterlock(0, 8, true));
    CHECK.throwing("other far", INDEX, () -> x.setInterlock(7, Integer.MIN_VALUE, true));
    CHECK.throwing("same zone", ARGUMENT, () -> x.setInterlock(4, 4, true));
    CHECK.throwing("same zone removed", ARGUMENT, () -> x.setInterlock(4, 4, false));
    CHECK.same("changes to take back", x.undo(), 4);
  }

  private static void setInterlockOfHeldZones() {
    RobotCell x = new RobotCell();
    x.give(0, 12, 1, 9, -1, -1);
    x.give(1, 5, 9, 0, -1, -1);
    x.tick(2);
    CHECK.same("arm 0 holds two zones", x.arm(0, 7), 3);
    CHECK.same("one arm's own zones", x.setInterlock(0, 1, true), false);
    CHECK.same("one of them is free", x.setInterlock(0, 7, true), false);
    CHECK.throwing("two arms", STATE, () -> x.setInterlock(0, 4, true));
    CHECK.throwing("two arms, the next zone", STATE, () -> x.setInterlock(4, 1, true));
    CHECK.same("none to remove", x.setInterlock(0, 4, false), false);
    CHECK.same("nothing made", x.account(9), 2);
    CHECK.throwing("the index first", INDEX, () -> x.setInterlock(0, 9, true));
  }

  private static void setReach() {
    RobotCell x = new RobotCell();
    CHECK.same("first reach", x.setReach(2, 0), 255);
    CHECK.same("then", x.setReach(2, 129), 0);
    CHECK.same("reach", x.arm(2, 0), 129);
    CHECK.same("in whose reach", x.zone(1, 2), 3);
    x.setReach(0, 253);
    CHECK.same("in the reach of arm 1 alone", x.zone(1, 2), 2);
    x.setReach(1, 253);
    CHECK.same("in nobody's reach", x.zone(1, 2), 0);
    x.setReach(0, 255);
    CHECK.same("in whose reach again", x.zone(7, 2), 7);
    CHECK.same("all", x.setReach(2, 255), 129);
    CHECK.throwing("no arm", INDEX, () -> x.setReach(3, 256));
    CHECK.throwing("arm -1", INDEX, () -> x.setReach(-1, 0));
    CHECK.throwing("set 256", ARGUMENT, () -> x.setReach(0, 256));
    CHECK.throwing("set -1", ARGUMENT, () -> x.setReach(0, -1));
    x.give(0, 12, 1, 0, -1, -1);
    x.setReach(0, 0);
    CHECK.same("a job that was given goes on", x.endsAfter(0), 4);
    x.tick(4);
    CHECK.same("it ended", x.job(0, 6), 2);
  }

  private static void setCapacity() {
    RobotCell x = new RobotCell();
    CHECK.same("first capacity", x.setCapacity(0, 4), 2);
    CHECK.same("capacity", x.setCapacity(0, 1), 4);
    CHECK.throwing("no buffer", INDEX, () -> x.setCapacity(3, 0));
    CHECK.throwing("buffer -1", INDEX, () -> x.setCapacity(-1, 1));
    CHECK.throwing("capacity 0", ARGUMENT, () -> x.setCapacity(0, 0));
    CHECK.throwing("capacity 5", ARGUMENT, () -> x.setCapacity(0, 5));
    x.setCapacity(1, 3);
    x.supply(1);
    x.give(0, 1, 9, 0, -1, 1);
    x.tick(1);
    CHECK.throwing("a part and a promised place", STATE, () -> x.setCapacity(1, 1));
    CHECK.same("just enough", x.setCapacity(1, 2), 3);
    x.supply(2);
    x.supply(2);
    CHECK.throwing("two parts", STATE, () -> x.setCapacity(2, 1));
    CHECK.throwing("the argument first", ARGUMENT, () -> x.setCapacity(2, 0));
    CHECK.same("unchanged", x.buffer(2, 0), 2);
  }

  private static void supply() {
    RobotCell x = new RobotCell();
    CHECK.same("part 0", x.supply(2), 0);
    CHECK.same("part 1", x.supply(0), 1);
    CHECK.same("part 2", x.supply(2), 2);
    CHECK.throwing("full", STATE, () -> x.supply(2));
    CHECK.throwing("no buffer", INDEX, () -> x.supply(3));
    CHECK.throwing("buffer -1", INDEX, () -> x.supply(-1));
    CHECK.same("last one", x.part(2, 1), 2);
    CHECK.same("new parts", x.account(4), 3);
    CHECK.same("parts in buffers", x.account(5), 3);
    x.give(0, 1, 2, 0, -1, 0);
    x.tick(1);
    CHECK.throwing("the last place is promised", STATE, () -> x.supply(0));
    x.tick(2);
    CHECK.same("a job's new part", x.part(0, 1), 3);
    CHECK.same("the next new part", x.supply(1), 4);
    x.undo();
    CHECK.same("again after undo", x.supply(1), 4);
  }

  private static void zone() {
    RobotCell x = new RobotCell();
    x.setInterlock(2, 6, true);
    x.give(1, 3, 2, 0, -1, -1);
    x.tick(2);
    CHECK.same("holder", x.zone(2, 0), 1);
    CHECK.same("holders against the zone itself", x.zone(2, 3), 2);
    CHECK.same("holders against the other", x.zone(6, 3), 2);
    CHECK.same("no holder of the other", x.zone(6, 0), -1);
    CHECK.same("holders against a neighbor", x.zone(3, 3), 0);
    CHECK.same("ticks", x.zone(2, 4), 2);
    x.tick(1);
    CHECK.same("not held at the end of the last tick", x.zone(2, 4), 2);
    CHECK.same("let go", x.zone(2, 0), -1);
    CHECK.throwing("zone -1", INDEX, () -> x.zone(-1, 5));
    CHECK.throwing("zone 8", INDEX, () -> x.zone(8, 0));
    CHECK.throwing("what -1", ARGUMENT, () -> x.zone(0, -1));
    CHECK.throwing("what 5", ARGUMENT, () -> x.zone(7, 5));
  }

  private static void zoneWhileMoving() {
    RobotCell x = new RobotCell();
    x.give(2, 18, 1, 4, -1, -1);
    x.tick(2);
    CHECK.same("from", x.zone(0, 0), 2);
    CHECK.same("to", x.zone(7, 0), 2);
    CHECK.same("ticks of the next one", x.zone(7, 4), 1);
    CHECK.same("ticks of the former one", x.zone(0, 4), 2);
    x.tick(2);
    CHECK.same("released", x.zone(0, 0), -1);
    CHECK.same("ticks of the former one then", x.zone(0, 4), 3);
    CHECK.same("ticks of the next one then", x.zone(7, 4), 3);
  }

  private static void buffer() {
    RobotCell x = new RobotCell();
    x.supply(0);
    x.supply(0);
    x.give(0, 1, 2, 0, 0, 1);
    x.tick(1);
    int[] source = {2, 2, 0, 1, 2, 0};
    int[] target = {2, 0, 1, 0, 0, 0};
    for (int what = 0; what < 6; what++) {
      CHECK.same("source " + what, x.buffer(0, what), source[what]);
      CHECK.same("target " + what, x.buffer(1, what), target[what]);
    }
    x.tick(2);
    int[] sourceThen = {2, 1, 0, 0, 2, 1};
    int[] targetThen = {2, 1, 0, 0, 1, 0};
    for (int what = 0; what < 6; what++) {
      CHECK.same("source then " + what, x.buffer(0, what), sourceThen[what]);
      CHECK.same("target then " + what, x.buffer(1, what), targetThen[what]);
    }
    CHECK.throwing("buffer 3", INDEX, () -> x.buffer(3, 6));
    CHECK.throwing("buffer -1", INDEX, () -> x.buffer(-1, 0));
    CHECK.throwing("what 6", ARGUMENT, () -> x.buffer(0, 6));
    CHECK.throwing("what -1", ARGUMENT, () -> x.buffer(2, -1));
  }

  private static void part() {
    RobotCell x = new RobotCell();
    CHECK.throwing("empty", NO_SUCH, () -> x.part(0, 0));
    x.setCapacity(0, 4);
    for (int i = 0; i < 4; i++) {
      x.supply(0);
    }
    for (int i = 0; i < 4; i++) {
      CHECK.same("part " + i, x.part(0, i), i);
    }
    CHECK.throwing("place 4", NO_SUCH, () -> x.part(0, 4));
    CHECK.throwing("place -1", NO_SUCH, () -> x.part(0, -1));
    CHECK.throwing("place far", NO_SUCH, () -> x.part(0, Integer.MAX_VALUE));
    CHECK.throwing("buffer 3", INDEX, () -> x.part(3, 0));
    CHECK.throwing("buffer -1", INDEX, () -> x.part(-1, -1));
    x.give(0, 1, 1, 0, 0, -1);
    x.tick(2);
    CHECK.same("the first one left", x.part(0, 0), 1);
    CHECK.same("the last one moved up", x.part(0, 2), 3);
    CHECK.throwing("three are left", NO_SUCH, () -> x.part(0, 3));
  }
}
