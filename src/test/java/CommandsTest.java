/** Promises 24 and 25: the input buffer and texts of commands. */
public final class CommandsTest {
  private static final Check CHECK = new Check();
  private static final Class<IllegalStateException> STATE = IllegalStateException.class;
  private static final Class<UnsupportedOperationException> CANNOT = UnsupportedOperationException.class;

  public static void main(String[] args) {
    feed();
    performJob();
    performTicks();
    performInterlocks();
    performNothingOrAll();
    errorPositions();
    emptyAfterwards();
    longTexts();
    CHECK.end();
  }

  private static void feed() {
    RobotCell x = new RobotCell();
    for (int i = 0; i < 80; i++) {
      CHECK.same("letter " + i, x.feed((char) (i * 900)), i + 1);
    }
    CHECK.throwing("letter 80", STATE, () -> x.feed('t'));
    CHECK.throwing("again", STATE, () -> x.feed('t'));
    CHECK.same("a text of other signs", x.perform(), -100);
    CHECK.same("empty", x.feed('t'), 1);
    CHECK.throwing("no change", STATE, () -> x.undo());
  }

  private static void performJob() {
    RobotCell x = new RobotCell();
    CHECK.same("plain", Check.perform(x, "j0:7/1w0"), 1);
    CHECK.same("whole", Check.perform(x, "j2:0,1,2,3,4/9w8<1>2"), 1);
    CHECK.same("source", Check.perform(x, "j1:5,0/3w4<0"), 1);
    CHECK.same("target", Check.perform(x, "j1:6/3w4>1"), 1);
    int[][] due = {{0, 8, 1, 0, -1, -1, 0}, {2, 12345, 9, 8, 1, 2, 0}, {1, 61, 3, 4, 0, -1, 0},
        {1, 7, 3, 4, -1, 1, 0}};
    for (int job = 0; job < due.length; job++) {
      for (int what = 0; what < 7; what++) {
        CHECK.same("job " + job + ", " + what, x.job(job, what), due[job][what]);
      }
    }
    String[] wrong = {"j3:0/1w1", "j9:0/1w1", "j0:8/1w1", "j0:9/1w1", "j0:9,1/1w1", "j0:8,1,2/1w1",
        "j0:0,0/1w1", "j0:0/0w1", "j0:0/1w1<3", "j0:0/1w1>3", "j0:0/1w1<9>9", "j0:1,2,2,3/1w1"};
    for (String text : wrong) {
      CHECK.throwing(text, CANNOT, () -> Check.perform(x, text));
    }
    x.setReach(0, 1);
    CHECK.throwing("not in the reach", CANNOT, () -> Check.perform(x, "j0:0,1/1w1"));
    CHECK.same("given", x.account(1), 4);
    for (int i = 0; i < 25; i++) {
      x.give(0, 1, 1, 0, -1, -1);
    }
    CHECK.throwing("job 30", CANNOT, () -> Check.perform(x, "j0:0/1w1;j0:0/1w1"));
    CHECK.same("job 29", Check.perform(x, "j0:0/1w1"), 1);
    CHECK.throwing("job 30 alone", CANNOT, () -> Check.perform(x, "j0:0/1w1"));
  }

  private static void performTicks() {
    RobotCell x = new RobotCell();
    CHECK.same("one", Check.perform(x, "t1"), 1);
    CHECK.same("time 1", x.account(0), 1);
    CHECK.same("t05", Check.perform(x, "t05"), 1);
    CHECK.same("time 6", x.account(0), 6);
    CHECK.same("t50", Check.perform(x, "t50;t50"), 2);
    CHECK.same("time 106", x.account(0), 106);
    CHECK.throwing("t0", CANNOT, () -> Check.perform(x, "t0"));
    CHECK.throwing("t00", CANNOT, () -> Check.perform(x, "t00"));
    CHECK.throwing("t51", CANNOT, () -> Check.perform(x, "t51"));
    CHECK.throwing("t99", CANNOT, () -> Check.perform(x, "t99"));
    CHECK.same("time still", x.account(0), 106);
  }

  private static void performInterlocks() {
    RobotCell x = new RobotCell();
    CHECK.same("made", Check.perform(x, "i07"), 1);
    CHECK.same("conflicts", x.zone(7, 1), 129);
    CHECK.same("removed and made", Check.perform(x, "i70;i12;i21;i34"), 4);
    CHECK.same("interlocks", x.account(9), 1);
    CHECK.same("conflicts of 3", x.zone(3, 1), 8 | 16);
    CHECK.throwing("same zone", CANNOT, () -> Check.perform(x, "i33"));
    CHECK.throwing("zone 8", CANNOT, () -> Check.perform(x, "i08"));
    CHECK.throwing("zone 9", CANNOT, () -> Check.perform(x, "i90"));
    CHECK.throwing("zones 8", CANNOT, () -> Check.perform(x, "i88"));
    CHECK.throwing("held by two", CANNOT, () -> Check.perform(x, "j0:0/9w0;j1:1/9w0;t1;i01"));
    CHECK.same("interlocks still", x.account(9), 1);
    CHECK.same("an interlock of held zones is removed", Check.perform(x, "j0:3/9w0;t1;i34"), 3);
  }

  private static void performNothingOrAll() {
    RobotCell x = new RobotCell();
    x.give(0, 12, 1, 0, -1, 0);
    x.tick(1);
    String before = View.of(x);
    CHECK.throwing("the last one cannot be carried out", CANNOT,
        () -> Check.perform(x, "i01;j1:4/1w1;t20;i22"));
    CHECK.sameText("state after an exception", View.of(x), before);
    CHECK.same("an error at the end", Check.perform(x, "i01;j1:4/1w1;t20;i2"), -119);
    CHECK.sameText("state after an error", View.of(x), before);
    CHECK.same("an error behind what cannot be carried out", Check.perform(x, "t0;x"), -103);
    CHECK.same("all", Check.perform(x, "i01;j1:4/1w1;t20"), 3);
    CHECK.same("all are ended", x.account(2), 2);
    CHECK.same("a text is one change", x.undo(), 2);
    CHECK.sameText("state after undo", View.of(x), before);
  }

  private static void errorPositions() {
    RobotCell x = new RobotCell();
    String[] texts = {"", "x", "J", ";", "t", "i", "j", "i0", "i0x", "i01x", "i012", "t1x", "t123", "t1;",
        "t1;;", "t1;x", "t1 ", " t1", "j0", "ja", "j0:", "j0;", "j00", "j0:x", "j0:0", "j0:01", "j0:0,",
        "j0:0,,", "j0:0/", "j0:0/x", "j0:0/1", "j0:0/12", "j0:0/1w", "j0:0/1wx", "j0:0/1w11", "j0:0/1w1<",
        "j0:0/1w1<x", "j0:0/1w1<1<", "j0:0/1w1>", "j0:0/1w1>1<1", "j0:0/1w1>1>", "j0:0/1w1<1>",
        "j0:0/1w1<1>2x", "j0:0,1,0,1,0,1/1w1", "j0:0,1,0,1,0", "j0:0,1,0,1,", "t-1", "i0,1",
        "j0:0/1w1<-1", "t\u0660", "t\uff11", "t5;i01;j0:0/1w1;t5,", "j0:0,/1w1", "j:0/1w1", "j0:/1w1", "j0:0/w1",
        "j0:0/1w;t1", "j0:0/1w1<;t1", "j0:0/1w1<>1", "j0:0/1w1>;t1", "t;t1", "i;t1", "i0;t1", "j00/1w1",
        "j0:01w1", "j0:0/11"};
    int[] due = {0, 0, 0, 0, 1, 1, 1, 2, 2, 3, 3, 2, 3, 3,
        3, 3, 2, 0, 2, 1, 3, 2, 2, 3, 4, 4, 5,
        5, 5, 5, 6, 6, 7, 7, 8, 9,
        9, 10, 9, 10, 10, 11,
        12, 12, 12, 11, 1, 2,
        9, 1, 1, 18, 5, 1, 3, 5,
        7, 9, 9, 9, 1, 1, 2, 2,
        4, 6};
    for (int i = 0; i < texts.length; i++) {
      CHECK.same("error of " + texts[i], Check.perform(x, texts[i]), -100 - due[i]);
    }
    CHECK.throwing("no change", STATE, () -> x.undo());
  }

  private static void emptyAfterwards() {
    RobotCell x = new RobotCell();
    Check.perform(x, "t1");
    CHECK.same("after a success", x.feed('t'), 1);
    x.perform();
    CHECK.same("after an error", x.feed('t'), 1);
    CHECK.throwing("t0", CANNOT, () -> Check.perform(x, "0"));
    CHECK.same("after an exception", x.feed('t'), 1);
    CHECK.same("that letter stays", Check.perform(x, "7"), 1);
    CHECK.same("time", x.account(0), 8);
  }

  private static void longTexts() {
    RobotCell x = new RobotCell();
    StringBuilder many = new StringBuilder("t1");
    for (int i = 0; i < 26; i++) {
      many.append(";t1");
    }
    CHECK.same("80 letters", many.length(), 80);
    CHECK.same("27 commands", Check.perform(x, many.toString()), 27);
    CHECK.same("time", x.account(0), 27);
    StringBuilder cut = new StringBuilder("t10");
    for (int i = 0; i < 25; i++) {
      cut.append(";t1");
    }
    cut.append(";t");
    CHECK.same("80 letters, too", cut.length(), 80);
    CHECK.same("it ends too early", Check.perform(x, cut.toString()), -180);
    CHECK.same("time still", x.account(0), 27);
  }
}
