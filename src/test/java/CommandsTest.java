/** The input buffer and texts of commands: that paragraph and promises 24 and 25. */
public final class CommandsTest {
  private static final Class<IllegalStateException> STATE = IllegalStateException.class;
  private static final Class<UnsupportedOperationException> CANNOT = UnsupportedOperationException.class;

  public static void main(String[] args) {
    Sentences.run(CommandsTest.class);
  }

  private static void nothing(RobotCell x) {}

  /** Arms 0 and 1 hold zones 0 and 1, and arm 2 has a row. */
  private static void busyCell(RobotCell x) {
    x.supply(0);
    x.give(0, 13, 9, 0, 0, 1);
    x.give(1, 24, 9, 0, -1, 2);
    x.give(2, 1, 9, 0, -1, -1);
    x.tick(2);
  }

  private static void twentyNineJobs(RobotCell x) {
    for (int i = 0; i < 29; i++) {
      x.give(i % 3, 1, 1, 0, -1, -1);
    }
  }

  private static String repeated(String first, int times, String more) {
    StringBuilder text = new StringBuilder(first);
    for (int i = 0; i < times; i++) {
      text.append(more);
    }
    return text.toString();
  }

  private static void right(Check check, String text, int commands) {
    check.same("commands of \"" + text + "\"", Calls.perform(new RobotCell(), text), commands);
  }

  private static void wrong(Check check, String text, int position) {
    check.textWrong(text, position, CommandsTest::busyCell);
  }

  // ---- the grammar

  @Says(at = "Description, Commands", text = "`text = command { \";\" command`}")
  static void manyCommands(Check check) {
    right(check, "t1", 1);
    right(check, "t1;t2", 2);
    right(check, "t1;i01;j0:0/1w0", 3);
    right(check, "j0:0/1w0;i01;t1;t50", 4);
    right(check, repeated("t1", 26, ";t1"), 27);
    wrong(check, "", 0);
    wrong(check, ";", 0);
    wrong(check, ";t1", 0);
    wrong(check, "t1;", 3);
    wrong(check, "t1;;t1", 3);
    wrong(check, "t1,t1", 2);
    wrong(check, "t1t1", 2);
    wrong(check, "i01i01", 3);
    wrong(check, "j0:0/1w0t1", 8);
    wrong(check, "j0:0/1w0<0>0t1", 12);
  }

  @Says(at = "Description, Commands",
      text = "`command = \"j\" digit \":\" digit { \",\" digit` \"/\" digit \"w\" digit [ \"<\" digit ] [ \">\" digit ]")
  static void jobsInTexts(Check check) {
    for (String zones : new String[] {"0", "0,1", "0,1,2", "0,1,2,3", "0,1,2,3,4"}) {
      right(check, "j0:" + zones + "/1w0", 1);
    }
    right(check, "j0:0/1w0<0", 1);
    right(check, "j0:0/1w0>0", 1);
    right(check, "j0:0/1w0<0>0", 1);
    wrong(check, "j:0/1w0", 1);
    wrong(check, "j00/1w0", 2);
    wrong(check, "j00:0/1w0", 2);
    wrong(check, "j0:/1w0", 3);
    wrong(check, "j0:,0/1w0", 3);
    wrong(check, "j0:01/1w0", 4);
    wrong(check, "j0:0,/1w0", 5);
    wrong(check, "j0:0,,1/1w0", 5);
    wrong(check, "j0:0,11/1w0", 6);
    wrong(check, "j0:0/w0", 5);
    wrong(check, "j0:0/11w0", 6);
    wrong(check, "j0:0/1", 6);
    wrong(check, "j0:0/1w", 7);
    wrong(check, "j0:0/1w00", 8);
    wrong(check, "j0:0/1w0<", 9);
    wrong(check, "j0:0/1w0<00", 10);
    wrong(check, "j0:0/1w0<0<0", 10);
    wrong(check, "j0:0/1w0>", 9);
    wrong(check, "j0:0/1w0>00", 10);
    wrong(check, "j0:0/1w0>0>0", 10);
    wrong(check, "j0:0/1w0>0<0", 10);
    wrong(check, "j0:0/1w0<0>0>0", 12);
    wrong(check, "j0:0/1w0<0>0<0", 12);
  }

  @Says(at = "Description, Commands", text = "| \"t\" digit [ digit ]")
  static void ticksInTexts(Check check) {
    right(check, "t9", 1);
    right(check, "t12", 1);
    wrong(check, "t", 1);
    wrong(check, "t;", 1);
    wrong(check, "tt", 1);
    wrong(check, "t123", 3);
    wrong(check, "t000", 3);
  }

  @Says(at = "Description, Commands", text = "| \"i\" digit digit}")
  static void interlocksInTexts(Check check) {
    right(check, "i70", 1);
    wrong(check, "i", 1);
    wrong(check, "i;", 1);
    wrong(check, "i0", 2);
    wrong(check, "i0;", 2);
    wrong(check, "i012", 3);
    wrong(check, "i0,1", 2);
  }

  @Says(at = "Description, Commands",
      text = "j gives a job: the arm, the zones, the work, the weight, the source and the target; t makes so many ticks; i"
          + " makes an interlock of two zones, or removes it if there is one.")
  static void meaningOfCommands(Check check) {
    RobotCell x = new RobotCell();
    check.same("jobs", Calls.perform(x, "j2:0,1,2,3,4/9w8<1>2;j1:7/1w0;j0:5,0/3w4>1"), 3);
    check.sameRow("a whole job", what -> x.job(0, what), 2, 12345, 9, 8, 1, 2, 0, -1, -1);
    check.sameRow("a plain job", what -> x.job(1, what), 1, 8, 1, 0, -1, -1, 0, -1, -1);
    check.sameRow("a job with a target", what -> x.job(2, what), 0, 61, 3, 4, -1, 1, 0, -1, -1);
    check.same("a job with a source", Calls.perform(x, "j0:6/3w4<0"), 1);
    check.sameRow("it", what -> x.job(3, what), 0, 7, 3, 4, 0, -1, 0, -1, -1);
    check.same("ticks", Calls.perform(x, "t3;t14"), 2);
    check.same("time", x.account(0), 17);
    check.same("interlocks", Calls.perform(x, "i70;i12"), 2);
    check.sameRow("conflicts", z -> x.zone(z, 1), 129, 6, 6, 8, 16, 32, 64, 129);
    check.same("one removed, one made and removed, one removed and made", Calls.perform(x, "i07;i34;i43;i21;i12"), 5);
    check.sameRow("conflicts then", z -> x.zone(z, 1), 1, 6, 6, 8, 16, 32, 64, 128);
  }

  @Says(at = "Description, Commands",
      text = "where braces mean zero or more repetitions, and brackets mean zero or one.")
  static void bracesAndBrackets(Check check) {
    for (int more = 0; more <= 4; more++) {
      right(check, "j0:0" + ",1,2,3,4".substring(0, 2 * more) + "/1w0", 1);
    }
    for (int more = 0; more <= 26; more++) {
      right(check, repeated("t1", more, ";t1"), 1 + more);
    }
    String[] jobs = {"", "<0", ">0", "<0>0"};
    for (String buffers : jobs) {
      right(check, "j0:0/1w0" + buffers, 1);
      wrong(check, "j0:0/1w0" + buffers + "<0<0", 8 + buffers.length() + (buffers.isEmpty() ? 2 : 0));
    }
    right(check, "t1", 1);
    right(check, "t11", 1);
    wrong(check, "t111", 3);
  }

  @Says(at = "Description, Commands", text = "A text can give at most 5 zones for a job.")
  static void atMostFiveZones(Check check) {
    RobotCell x = new RobotCell();
    check.same("five", Calls.perform(x, "j0:7,6,5,4,3/1w0"), 1);
    check.same("their path", x.job(0, 1), 87654);
    wrong(check, "j0:7,6,5,4,3,2/1w0", 12);
    wrong(check, "j0:7,6,5,4,3,", 12);
    wrong(check, "t1;j0:0,0,0,0,0,0/1w0", 15);
    check.textRefused("j0:0,0,0,0,0/1w0", CANNOT, CommandsTest::nothing);
  }

  @Says(at = "Description, Commands",
      text = "The error position of a text is the offset, from 0, of the first character that cannot continue such a text,"
          + " or the length of the text if it ends too early.")
  static void errorPositions(Check check) {
    String whole = "j0:3,4/1w0<0>1;t10;i67;j1:5/2w3>0;t7";
    // These cuts are texts, too, up to here.
    boolean[] isText = new boolean[whole.length()];
    for (int length : new int[] {10, 12, 14, 17, 18, 22, 31, 33}) {
      isText[length] = true;
    }
    for (int at = 0; at < whole.length(); at++) {
      if (!isText[at]) {
        check.textWrong(whole.substring(0, at), at, CommandsTest::nothing);
      }
      check.textWrong(whole.substring(0, at) + "x" + whole.substring(at + 1), at, CommandsTest::nothing);
    }
    check.textWrong(whole + "x", whole.length(), CommandsTest::nothing);
    check.textWrong(whole + "8,", whole.length() + 1, CommandsTest::nothing);
    String[] texts = {"J", " t1", "t 1", "t1 ", "t-1", "t+1", "i 01", "ja", "j0;0/1w0", "j0:0w", "j0:0;",
        "j0:0/1;t1", "j0:0/1w;t1", "j0:0/1w1<;t1", "j0:0/1w1<>1", "j0:0/1w1>;t1", "j0:0/1w1<-1", "T1", "I01",
        "t1;T1", "t1\n", "w0", "0", "/", ":", "j0:0/1W0", "j0:0\\1w0"};
    int[] due = {0, 0, 1, 2, 1, 1, 1, 1, 2, 4, 4,
        6, 7, 9, 9, 9, 9, 0, 0,
        3, 2, 0, 0, 0, 0, 6, 4};
    check.same("texts and positions", texts.length, due.length);
    for (int i = 0; i < texts.length; i++) {
      wrong(check, texts[i], due[i]);
    }
    wrong(check, repeated("t10", 25, ";t1") + ";t", 80);
    wrong(check, repeated("t1", 25, ";t1") + ";;;", 78);
  }

  @Says(at = "Description, Commands", text = "Numbers that are out of range are no errors of the text.")
  static void numbersOutOfRange(Check check) {
    String[] texts = {"j3:0/1w0", "j9:0/1w0", "j0:8/1w0", "j0:9/1w0", "j0:9,0/1w0", "j0:0,8,1/1w0", "j0:1,0,8/1w0",
        "j0:0,0/1w0", "j0:1,2,2,3/1w0", "j0:0/0w0", "j0:0/1w0<3", "j0:0/1w0>3", "j0:0/1w0<9>9", "i08", "i80", "i90",
        "i99", "i33", "t0", "t00", "t51", "t99"};
    for (String text : texts) {
      check.textRefused(text, CANNOT, CommandsTest::busyCell);
    }
    wrong(check, "t0;x", 3);
    wrong(check, "j9:9/0w0<9>9;t", 14);
  }

  @Says(at = "Description, Details",
      text = "In texts, t0 is right, but cannot be carried out, t05 is 5, and zones are given by their numbers.")
  static void ticksAndZonesInTexts(Check check) {
    check.textRefused("t0", CANNOT, CommandsTest::busyCell);
    check.textRefused("t00", CANNOT, CommandsTest::busyCell);
    RobotCell x = new RobotCell();
    check.same("t05", Calls.perform(x, "t05"), 1);
    check.same("time", x.account(0), 5);
    check.same("t01", Calls.perform(x, "t01"), 1);
    check.same("time then", x.account(0), 6);
    check.same("t50", Calls.perform(x, "t50"), 1);
    check.same("time at last", x.account(0), 56);
    for (int zone = 0; zone < 8; zone++) {
      RobotCell y = new RobotCell();
      Calls.perform(y, "j0:" + zone + "/9w0;t1");
      check.same("the arm is in zone " + zone, y.arm(0, 4), zone);
    }
  }

  // ---- promise 24: feed

  @Says(at = "Promise 24: feed", text = "Appends a character to the input buffer.")
  static void appendedCharacters(Check check) {
    RobotCell x = new RobotCell();
    Calls.feed(x, "t1");
    Calls.feed(x, "2;t");
    Calls.feed(x, "3");
    check.same("the text", x.perform(), 2);
    check.same("time", x.account(0), 15);
    RobotCell y = new RobotCell();
    Calls.feed(y, "t2");
    y.tick(1);
    y.give(0, 1, 1, 0, -1, -1);
    y.isSafe();
    Calls.feed(y, "0");
    check.same("other calls between", y.perform(), 1);
    check.same("time then", y.account(0), 21);
  }

  @Says(at = "Promise 24: feed", text = "`letter`: any character")
  static void anyCharacter(Check check) {
    RobotCell x = new RobotCell();
    for (int i = 0; i <= Character.MAX_VALUE; i++) {
      if (i % 100 == 0) {
        x = new RobotCell();
      }
      char letter = (char) i;
      check.same("letter " + i, x.feed(letter), 1);
      boolean isCommand = letter == 'j' || letter == 't' || letter == 'i';
      check.same("a text of letter " + i, x.perform(), isCommand ? -101 : -100);
      x.feed('t');
      check.same("letter " + i + " behind t", x.feed(letter), 2);
      boolean isDigit = letter >= '1' && letter <= '9';
      if (letter != '0') {
        check.same("a text of t and letter " + i, x.perform(), isDigit ? 1 : -101);
      } else {
        x = new RobotCell();
      }
    }
  }

  @Says(at = "Promise 24: feed", text = "Returns the number of characters in the buffer.")
  static void numberOfCharacters(Check check) {
    RobotCell x = new RobotCell();
    for (int i = 1; i <= 80; i++) {
      check.same("letters", x.feed('t'), i);
    }
    x.perform();
    check.same("letters behind perform", x.feed('t'), 1);
  }

  @Says(at = "Promise 24: feed", text = "Throws `IllegalStateException` if the buffer already holds 80 characters")
  static void fullBuffer(Check check) {
    // Two letters more are fed by the check.
    check.refused("a letter more", STATE, x -> Calls.feed(x, repeated("t1", 25, ";t1") + ";"), x -> x.feed('7'));
    RobotCell x = new RobotCell();
    Calls.feed(x, repeated("t1", 26, ";t1"));
    try {
      x.feed('9');
      check.same("letter 81 was taken", true, false);
    } catch (IllegalStateException e) {
      check.same("the text is whole", x.perform(), 27);
    }
    check.same("time", x.account(0), 27);
  }

  // ---- promise 25: perform

  @Says(at = "Promise 25: perform",
      text = "Parses the input buffer as a text of commands and carries them out, in their order.")
  static void inTheirOrder(Check check) {
    String text = "t3;j0:0/1w0;t1;j1:1/1w0;t1";
    RobotCell x = new RobotCell();
    check.same("a job between ticks", Calls.perform(x, text), 5);
    check.same("start of the first one", x.job(0, 7), 4);
    check.same("start of the second one", x.job(1, 7), 5);
    Calls sameByCalls = y -> {
      y.tick(3);
      y.give(0, 1, 1, 0, -1, -1);
      y.tick(1);
      y.give(1, 2, 1, 0, -1, -1);
      y.tick(1);
    };
    check.sameText("the same as by calls", View.of(y -> Calls.perform(y, text)), View.of(sameByCalls));
    RobotCell z = new RobotCell();
    check.same("jobs of one arm", Calls.perform(z, "j0:4/1w0;j0:3/1w0;j0:5/1w0"), 3);
    check.sameRow("paths in the row", i -> z.job(z.waiting(0, i), 1), 5, 4, 6);
  }

  @Says(at = "Promise 25: perform", text = "The buffer is empty afterwards, also after an error or an exception.")
  static void emptyAfterwards(Check check) {
    RobotCell x = new RobotCell();
    Calls.perform(x, "t1");
    check.same("after a success", x.feed('t'), 1);
    check.same("t alone", x.perform(), -101);
    check.same("after an error", x.feed('x'), 1);
    check.same("x alone", x.perform(), -100);
    check.same("an empty buffer", x.perform(), -100);
    check.textRefused("t1;t0", CANNOT, CommandsTest::busyCell);
    try {
      Calls.perform(x, "t0");
      check.same("t0 was carried out", true, false);
    } catch (UnsupportedOperationException e) {
      check.same("after an exception", x.feed('t'), 1);
    }
    check.same("this letter stays", Calls.perform(x, "7"), 1);
    check.same("time", x.account(0), 8);
  }

  @Says(at = "Promise 25: perform", text = "If a command cannot be carried out, none has an effect.")
  static void allOrNothing(Check check) {
    check.textRefused("i67;j2:3/1w0;t20;i22", CANNOT, CommandsTest::busyCell);
    check.textRefused("t51;i67;t20", CANNOT, CommandsTest::busyCell);
    check.textRefused("t20;j0:8/1w0;t20", CANNOT, CommandsTest::busyCell);
    check.textWrong("i67;j2:3/1w0;t20;i2", 19, CommandsTest::busyCell);
    RobotCell x = new RobotCell();
    busyCell(x);
    check.same("all of them", Calls.perform(x, "i67;j2:3/1w0;t20"), 3);
    check.same("time", x.account(0), 22);
  }

  @Says(at = "Promise 25: perform",
      text = "Returns the number of commands; -100 minus the error position after a syntax error.")
  static void numberOfCommands(Check check) {
    right(check, "i01", 1);
    right(check, "j0:0/1w0;t9;i01;i01", 4);
    right(check, repeated("t1", 26, ";t1"), 27);
    wrong(check, "", 0);
    wrong(check, "t", 1);
    wrong(check, "t1;", 3);
    wrong(check, repeated("t1", 25, ";t1") + ";t", 79);
  }

  @Says(at = "Promise 25: perform",
      text = "Throws `UnsupportedOperationException` if the text is correct, and give, tick or setInterlock would throw an"
          + " exception for one of the commands")
  static void commandsThatCannotBeCarriedOut(Check check) {
    check.textRefused("j3:0/1w0", CANNOT, CommandsTest::busyCell);
    check.textRefused("j0:1,1/1w0", CANNOT, CommandsTest::busyCell);
    check.textRefused("j0:1/1w0", CANNOT, x -> x.setReach(0, 253));
    check.textRefused("j0:0/1w0;j0:0/1w0", CANNOT, CommandsTest::twentyNineJobs);
    check.textRefused("t51", CANNOT, CommandsTest::busyCell);
    check.textRefused("i55", CANNOT, CommandsTest::busyCell);
    check.textRefused("i58", CANNOT, CommandsTest::busyCell);
    check.textRefused("i01", CANNOT, CommandsTest::busyCell);
    check.textRefused("i10", CANNOT, CommandsTest::busyCell);
    check.textRefused("j0:0/9w0;j1:1/9w0;t1;i01", CANNOT, CommandsTest::nothing);
    check.textRefused("i01;i01;i01;i00", CANNOT, CommandsTest::nothing);
    RobotCell x = new RobotCell();
    twentyNineJobs(x);
    check.same("job 29", Calls.perform(x, "j0:0/1w0"), 1);
    RobotCell y = new RobotCell();
    check.same("before the zones are held", Calls.perform(y, "j0:0/9w0;j1:1/9w0;i01;t1"), 4);
    check.same("arm 1 is refused", y.reason(1, false), 3);
    RobotCell z = new RobotCell();
    z.setInterlock(0, 1, true);
    z.give(0, 12, 1, 9, -1, -1);
    z.tick(2);
    check.same("held by one arm", Calls.perform(z, "i01;i01;i02"), 3);
  }
}
