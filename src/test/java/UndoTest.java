import java.util.NoSuchElementException;

/** Promises 26 to 28: undo, save and restore. */
public final class UndoTest {
  private static final Class<IllegalStateException> STATE = IllegalStateException.class;

  public static void main(String[] args) {
    Sentences.run(UndoTest.class);
  }

  private static void nothing(RobotCell x) {}

  /** Arms that work, move and wait, parts, promises and refusals, by four changes. */
  private static void busyCell(RobotCell x) {
    Calls.perform(x, "i05;j0:0,1,2/2w9<0>2;j1:2,1,0/1w4>1;j2:5/3w0>2;j2:6,7/1w0;j0:3/1w0");
    x.setCapacity(2, 3);
    x.supply(0);
    x.tick(7);
  }

  private static void sixChanges(RobotCell x) {
    for (int zones = 1; zones <= 6; zones++) {
      x.setReach(0, zones);
    }
  }

  private static void undoAll(RobotCell x) {
    for (int i = 0; i < 6; i++) {
      try {
        x.undo();
      } catch (IllegalStateException e) {
        return;
      }
    }
  }

  // ---- promise 26: undo

  @Says(at = "Promise 26: undo",
      text = "Takes back the latest change that was not taken back: a successful call of setInterlock, setReach, setCapacity,"
          + " supply, give, withdraw or tick, or one of perform that carries commands out, also if everything stayed the"
          + " same.")
  static void eachChange(Check check) {
    Calls[] changes = {
      x -> x.setInterlock(6, 7, true),
      x -> x.setInterlock(0, 5, false),
      x -> x.setReach(1, 3),
      x -> x.setCapacity(0, 4),
      x -> x.supply(0),
      x -> x.give(0, 1, 1, 0, -1, -1),
      x -> x.withdraw(2),
      x -> x.tick(1),
      x -> x.tick(50),
      x -> x.setInterlock(6, 7, false),
      x -> x.setInterlock(0, 5, true),
      x -> x.setReach(1, 255),
      x -> x.setCapacity(0, 2),
    };
    for (int i = 0; i < changes.length; i++) {
      Calls change = changes[i];
      check.unchanged("change " + i + " and undo", UndoTest::busyCell, x -> {
        change.on(x);
        x.undo();
      });
    }
    Calls busy = UndoTest::busyCell;
    for (String text : new String[] {"i67;j0:0/1w0;t9", "i67;i67", "t1"}) {
      Calls performed = busy.then(x -> Calls.perform(x, text));
      check.same("changes behind a text", performed.made().undo(), 4);
      check.sameObjects("a text and undo", performed.then(x -> x.undo()), busy);
    }
    RobotCell z = new RobotCell();
    z.tick(1);
    z.tick(2);
    z.undo();
    z.tick(4);
    check.same("time", z.account(0), 5);
    z.undo();
    check.same("the latest one that was not taken back", z.account(0), 1);
    z.undo();
    check.same("the one before", z.account(0), 0);
  }

  @Says(at = "Promise 26: undo",
      text = "a successful call of setInterlock, setReach, setCapacity, supply, give, withdraw or tick, or one of perform"
          + " that carries commands out")
  static void otherCallsAreNoChanges(Check check) {
    Calls[] others = {
      x -> x.setInterlock(0, 8, true), x -> x.setReach(0, 256), x -> x.setCapacity(0, 5), x -> x.supply(3),
      x -> x.give(0, 11, 1, 0, -1, -1), x -> x.withdraw(1), x -> x.tick(51), x -> Calls.perform(x, "t1;t0"),
      x -> Calls.perform(x, "t1;"), x -> x.perform(), x -> x.feed('t'), x -> x.save(), x -> x.isSafe(),
      x -> x.idleAfter(), x -> x.zone(0, 0), x -> x.part(0, 0), x -> x.wouldBe(0), x -> x.endsAfter(0),
    };
    for (int i = 0; i < others.length; i++) {
      RobotCell x = new RobotCell();
      sixChanges(x);
      try {
        others[i].on(x);
      } catch (IndexOutOfBoundsException | IllegalArgumentException | IllegalStateException
          | UnsupportedOperationException | NoSuchElementException e) {
        check.same("changes stay when a call throws", x.arm(0, 0), 6);
      }
      check.same("changes left behind call " + i, x.undo(), 5);
      check.same("reach behind call " + i, x.arm(0, 0), 5);
      undoAll(x);
      check.same("reach before all changes, call " + i, x.arm(0, 0), 255);
    }
  }

  @Says(at = "Promise 26: undo", text = "At most 6 changes can be taken back.")
  static void sixChangesBack(Check check) {
    for (int made = 1; made <= 20; made++) {
      RobotCell x = new RobotCell();
      for (int i = 0; i < made; i++) {
        x.tick(1);
      }
      int kept = made < 6 ? made : 6;
      for (int left = kept - 1; left >= 0; left--) {
        check.same("changes left of " + made, x.undo(), left);
        check.same("time, with " + left + " left of " + made, x.account(0), made - kept + left);
      }
    }
  }

  @Says(at = "Description, Details", text = "At most 6 changes are kept; older ones are gone for good.")
  static void olderChanges(Check check) {
    check.refused("a seventh one", STATE, x -> {
      sixChanges(x);
      undoAll(x);
    }, x -> x.undo());
    RobotCell x = new RobotCell();
    for (int i = 0; i < 8; i++) {
      x.tick(1);
    }
    undoAll(x);
    check.same("time before the six", x.account(0), 2);
    x.tick(10);
    check.same("those that are gone do not come back", x.undo(), 0);
    check.same("time then", x.account(0), 2);
    for (int i = 0; i < 4; i++) {
      x.tick(1);
    }
    x.undo();
    x.undo();
    for (int i = 0; i < 5; i++) {
      x.tick(10);
    }
    check.same("seven changes, of which six are kept", x.undo(), 5);
    undoAll(x);
    check.same("time before the latest six", x.account(0), 3);
  }

  @Says(at = "Promise 26: undo", text = "The input buffer stays; all else is as it was before the change.")
  static void inputBufferStays(Check check) {
    RobotCell x = new RobotCell();
    x.feed('t');
    x.tick(5);
    x.feed('1');
    x.undo();
    check.same("letters", x.feed('2'), 3);
    check.same("the text", x.perform(), 1);
    check.same("time", x.account(0), 12);
    x.undo();
    check.same("a text that was carried out does not come back", x.feed('t'), 1);
    Calls[] changes = {y -> y.tick(3), y -> y.supply(1), y -> y.tick(9), y -> y.setInterlock(1, 3, true),
        y -> y.give(2, 81, 9, 9, 1, 1), y -> y.tick(50)};
    String[] before = new String[6];
    Calls history = UndoTest::busyCell;
    for (int i = 0; i < 6; i++) {
      before[i] = View.of(history);
      history = history.then(changes[i]);
    }
    for (int i = 5; i >= 0; i--) {
      history = history.then(y -> y.undo());
      check.sameText("before change " + i, View.of(history), before[i]);
    }
  }

  @Says(at = "Promise 26: undo", text = "all else is as it was before the change")
  static void reasonsAndGoneParts(Check check) {
    Calls refusedForAPart = x -> {
      x.supply(2);
      Calls.perform(x, "j1:0/3w0<2;t1;j0:0/1w0<2;t2");
    };
    RobotCell x = new RobotCell();
    refusedForAPart.on(x);
    check.same("reason", x.reason(0, false), 1);
    check.same("detail", x.reason(0, true), 2);
    x.tick(1);
    check.same("a part is gone", x.account(6), 1);
    check.unchanged("a part that went and another reason", refusedForAPart, y -> {
      y.tick(1);
      y.undo();
    });
    check.unchanged("two changes taken back", refusedForAPart, y -> {
      y.give(1, 5, 9, 0, -1, -1);
      y.tick(3);
      y.undo();
      y.undo();
    });
  }

  @Says(at = "Promise 26: undo", text = "Takes back the latest change that was not taken back")
  static void jobsThatWereTakenBack(Check check) {
    RobotCell x = new RobotCell();
    x.give(1, 1, 1, 9, 2, 2);
    x.undo();
    x.give(0, 12, 9, 9, -1, -1);
    x.tick(30);
    check.sameRow("it ended", what -> x.job(0, what), 0, 12, 9, 9, -1, -1, 2, 1, 22);
    x.undo();
    check.sameRow("it is in the row again", what -> x.job(0, what), 0, 12, 9, 9, -1, -1, 0, -1, -1);
    x.tick(30);
    x.undo();
    x.undo();
    check.same("no job is left", x.account(1), 0);
    x.give(2, 3, 1, 0, -1, -1);
    check.sameRow("another job has its number", what -> x.job(0, what), 2, 3, 1, 0, -1, -1, 0, -1, -1);
    check.same("ends after", x.endsAfter(0), 2);
    RobotCell y = new RobotCell();
    Calls.perform(y, "j0:0/1w0;t5");
    y.undo();
    y.give(2, 3, 1, 0, -1, -1);
    check.sameRow("a job that was given and ended by a text", what -> y.job(0, what), 2, 3, 1, 0, -1, -1, 0, -1, -1);
  }

  @Says(at = "Promise 26: undo", text = "Returns the number of changes that can still be taken back.")
  static void changesLeft(Check check) {
    RobotCell x = new RobotCell();
    x.setReach(0, 1);
    check.same("one", x.undo(), 0);
    sixChanges(x);
    check.same("six", x.undo(), 5);
    check.same("five", x.undo(), 4);
    x.supply(0);
    check.same("five again", x.undo(), 4);
    check.same("four", x.undo(), 3);
    check.same("three", x.undo(), 2);
    check.same("two", x.undo(), 1);
    check.same("the last one", x.undo(), 0);
  }

  @Says(at = "Promise 26: undo", text = "Throws `IllegalStateException` if there is none")
  static void nothingToTakeBack(Check check) {
    check.refusedUnsaved("a new object", STATE, UndoTest::nothing, x -> x.undo());
    check.refused("all are taken back", STATE, UndoTest::undoAll, x -> x.undo());
    check.refusedUnsaved("no changes", STATE, x -> {
      x.feed('t');
      x.perform();
      x.save();
    }, x -> x.undo());
    check.refused("restored", STATE, x -> {
      busyCell(x);
      x.restore();
    }, x -> x.undo());
  }

  // ---- promises 27 and 28: save and restore

  @Says(at = "Promise 27: save",
      text = "Saves everything but the input buffer and what can be taken back, in place of what was saved before.")
  static void savedCell(Check check) {
    Calls busy = UndoTest::busyCell;
    String first = View.of(busy);
    Calls saved = busy.then(x -> {
      x.feed('t');
      x.save();
    });
    check.sameText("save changes nothing", View.of(saved), first);
    Calls restored = saved.then(x -> {
      x.supply(0);
      x.give(1, 4, 1, 0, -1, -1);
      x.tick(13);
      x.setInterlock(3, 4, true);
      x.feed('3');
      x.restore();
    });
    check.sameText("everything is as it was saved", View.of(restored), first);
    RobotCell z = restored.made();
    check.same("the input buffer stays as it is", z.perform(), 1);
    check.same("its ticks", z.account(0), 10);
    Calls performed = restored.then(x -> x.perform());
    Calls savedAgain = performed.then(x -> {
      x.save();
      x.tick(1);
      x.restore();
    });
    check.sameText("in place of what was saved before", View.of(savedAgain), View.of(performed));
    RobotCell y = new RobotCell();
    sixChanges(y);
    y.save();
    check.same("what can be taken back stays", y.undo(), 5);
    check.same("what can be taken back stays, too", y.undo(), 4);
    y.restore();
    check.same("undo leaves what was saved", y.arm(0, 0), 6);
  }

  @Says(at = "Promise 27: save", text = "Returns the time.")
  static void timeOfSave(Check check) {
    RobotCell x = new RobotCell();
    check.same("at first", x.save(), 0);
    x.tick(7);
    check.same("time 7", x.save(), 7);
    x.undo();
    check.same("time 0 again", x.save(), 0);
  }

  @Says(at = "Promise 28: restore",
      text = "Restores what was saved, which stays saved. No change can be taken back afterwards.")
  static void restoredCell(Check check) {
    Calls busy = UndoTest::busyCell;
    String first = View.of(busy);
    Calls restored = busy.then(x -> x.save());
    for (int i = 0; i < 3; i++) {
      int zones = i;
      restored = restored.then(x -> {
        x.tick(10 + zones);
        x.supply(1);
        x.setReach(2, zones);
        x.restore();
      });
      check.sameText("restored, " + i, View.of(restored), first);
    }
    check.refused("no change behind restore", STATE, x -> {
      busyCell(x);
      x.save();
      x.tick(1);
      x.restore();
    }, x -> x.undo());
    Calls changed = restored.then(x -> x.tick(1));
    check.same("a change behind restore", changed.made().undo(), 0);
    check.sameText("is taken back", View.of(changed.then(x -> x.undo())), first);
    Calls restoredNew = x -> {
      x.save();
      busyCell(x);
      x.restore();
    };
    check.sameText("a new object that was saved", View.of(restoredNew), View.of(UndoTest::nothing));
    RobotCell z = restoredNew.made();
    check.same("gives the first number to a job", z.give(0, 12, 1, 0, -1, -1), 0);
    check.sameRow("which is in the row", what -> z.job(0, what), 0, 12, 1, 0, -1, -1, 0, -1, -1);
    check.same("and to a part", z.supply(0), 0);
  }

  @Says(at = "Promise 28: restore", text = "Returns the time.")
  static void timeOfRestore(Check check) {
    RobotCell x = new RobotCell();
    x.tick(7);
    x.save();
    x.tick(50);
    check.same("time", x.restore(), 7);
  }

  @Says(at = "Promise 28: restore", text = "Throws `IllegalStateException` if nothing was saved")
  static void nothingWasSaved(Check check) {
    check.refusedUnsaved("a new object", STATE, UndoTest::nothing, x -> x.restore());
    check.refusedUnsaved("a busy one", STATE, UndoTest::busyCell, x -> x.restore());
  }
}
