/** Promises 26 to 28: undo, save and restore. */
public final class UndoTest {
  private static final Check CHECK = new Check();
  private static final Class<IllegalStateException> STATE = IllegalStateException.class;

  public static void main(String[] args) {
    undoOfEachChange();
    undoOfRefusalsAndGoneParts();
    undoOfUnchangingChanges();
    failuresAreNoChanges();
    sixChanges();
    inputBufferStays();
    saveAndRestore();
    savedStays();
    CHECK.end();
  }

  private static RobotCell busyCell() {
    RobotCell x = new RobotCell();
    x.setInterlock(0, 5, true);
    x.setCapacity(2, 3);
    x.supply(0);
    x.give(0, 123, 2, 9, 0, 2);
    x.give(1, 321, 1, 4, -1, 1);
    x.give(2, 6, 3, 0, -1, 2);
    x.give(2, 78, 1, 0, -1, -1);
    x.tick(7);
    return x;
  }

  private static void undoOfEachChange() {
    RobotCell x = busyCell();
    String[] before = new String[9];
    before[0] = View.of(x);
    x.setInterlock(6, 7, true);
    before[1] = View.of(x);
    x.setReach(1, 3);
    before[2] = View.of(x);
    x.setCapacity(0, 4);
    before[3] = View.of(x);
    x.supply(0);
    before[4] = View.of(x);
    x.give(0, 1, 1, 0, -1, -1);
    before[5] = View.of(x);
    x.withdraw(2);
    before[6] = View.of(x);
    for (int i = 5; i >= 0; i--) {
      CHECK.same("changes left", x.undo(), i);
      CHECK.sameText("state before change " + i, View.of(x), before[i]);
    }
    CHECK.throwing("none is left", STATE, () -> x.undo());
    x.tick(30);
    Check.perform(x, "i12;j0:1/2w3;t9");
    CHECK.same("the text", x.undo(), 1);
    CHECK.same("the ticks", x.undo(), 0);
    CHECK.sameText("state before the ticks", View.of(x), before[0]);
    x.tick(1);
    CHECK.same("a change after undo", x.undo(), 0);
  }

  private static void undoOfRefusalsAndGoneParts() {
    RobotCell x = new RobotCell();
    x.supply(2);
    x.give(1, 1, 3, 0, 2, -1);
    x.tick(1);
    x.give(0, 1, 1, 0, 2, -1);
    x.tick(2);
    CHECK.same("no part", x.reason(0, false), 1);
    CHECK.same("the source", x.reason(0, true), 2);
    String before = View.of(x);
    x.give(1, 5, 9, 0, -1, -1);
    x.tick(2);
    CHECK.same("gone", x.account(6), 1);
    x.setInterlock(0, 4, true);
    x.supply(2);
    x.tick(1);
    CHECK.same("conflict", x.reason(0, false), 3);
    CHECK.same("the arm", x.reason(0, true), 1);
    for (int i = 0; i < 5; i++) {
      x.undo();
    }
    CHECK.sameText("state before", View.of(x), before);
    CHECK.same("nothing gone", x.account(6), 0);
    x.save();
    x.tick(1);
    CHECK.same("gone again", x.account(6), 1);
    x.restore();
    CHECK.sameText("restored state", View.of(x), before);
  }

  private static void undoOfUnchangingChanges() {
    RobotCell x = new RobotCell();
    x.setInterlock(0, 1, false);
    x.setReach(0, 255);
    x.setCapacity(0, 2);
    Check.perform(x, "i01;i01");
    CHECK.same("all of them count", x.undo(), 3);
  }

  private static void failuresAreNoChanges() {
    RobotCell x = new RobotCell();
    for (int i = 1; i <= 6; i++) {
      x.setReach(0, i);
    }
    CHECK.throwing("zone", IndexOutOfBoundsException.class, () -> x.setInterlock(0, 8, true));
    CHECK.throwing("reach", IllegalArgumentException.class, () -> x.setReach(0, 256));
    CHECK.throwing("capacity", IllegalArgumentException.class, () -> x.setCapacity(0, 5));
    CHECK.throwing("supply", IndexOutOfBoundsException.class, () -> x.supply(3));
    CHECK.throwing("give", UnsupportedOperationException.class, () -> x.give(0, 1, 1, 0, -1, -1));
    CHECK.throwing("withdraw", java.util.NoSuchElementException.class, () -> x.withdraw(0));
    CHECK.throwing("tick", IllegalArgumentException.class, () -> x.tick(51));
    CHECK.throwing("perform", UnsupportedOperationException.class, () -> Check.perform(x, "t1;t0"));
    CHECK.same("error", Check.perform(x, "t1;"), -103);
    CHECK.throwing("restore", STATE, () -> x.restore());
    x.save();
    x.isSafe();
    x.idleAfter();
    x.feed('t');
    for (int i = 5; i >= 0; i--) {
      CHECK.same("changes left", x.undo(), i);
      CHECK.same("reach", x.arm(0, 0), i == 0 ? 255 : i);
    }
  }

  private static void sixChanges() {
    RobotCell x = new RobotCell();
    for (int i = 1; i <= 15; i++) {
      x.tick(1);
    }
    for (int i = 5; i >= 0; i--) {
      CHECK.same("changes left", x.undo(), i);
      CHECK.same("time", x.account(0), 9 + i);
    }
    CHECK.throwing("older ones are gone", STATE, () -> x.undo());
    x.tick(10);
    x.tick(10);
    CHECK.same("changes anew", x.undo(), 1);
    CHECK.same("time anew", x.account(0), 19);
  }

  private static void inputBufferStays() {
    RobotCell x = new RobotCell();
    x.feed('t');
    x.tick(5);
    x.feed('1');
    x.undo();
    CHECK.same("letters after undo", x.feed('2'), 3);
    CHECK.same("the text after undo", x.perform(), 1);
    CHECK.same("time", x.account(0), 12);
    x.undo();
    CHECK.same("a performed text does not come back", x.feed('t'), 1);
    x.save();
    x.feed('3');
    x.restore();
    CHECK.same("the text after restore", x.perform(), 1);
    CHECK.same("time then", x.account(0), 3);
  }

  private static void saveAndRestore() {
    RobotCell x = busyCell();
    CHECK.throwing("nothing was saved", STATE, () -> x.restore());
    String before = View.of(x);
    CHECK.same("save", x.save(), 7);
    CHECK.sameText("save changes nothing", View.of(x), before);
    CHECK.same("and is no change", x.undo(), 5);
    CHECK.same("time after undo", x.account(0), 0);
    CHECK.same("restore", x.restore(), 7);
    CHECK.sameText("restored", View.of(x), before);
    CHECK.throwing("no change can be taken back", STATE, () -> x.undo());
    x.tick(20);
    CHECK.same("a change after restore", x.undo(), 0);
    CHECK.sameText("taken back", View.of(x), before);
  }

  private static void savedStays() {
    RobotCell x = busyCell();
    x.save();
    String first = View.of(x);
    x.supply(0);
    x.give(1, 4, 1, 0, -1, -1);
    x.tick(13);
    x.restore();
    CHECK.sameText("once", View.of(x), first);
    x.tick(5);
    CHECK.same("again", x.restore(), 7);
    CHECK.sameText("twice", View.of(x), first);
    x.tick(5);
    CHECK.same("saved anew", x.save(), 12);
    String second = View.of(x);
    x.tick(5);
    CHECK.same("restored anew", x.restore(), 12);
    CHECK.sameText("thrice", View.of(x), second);
    x.tick(1);
    x.save();
    x.undo();
    CHECK.same("undo leaves what was saved", x.restore(), 13);
  }
}
