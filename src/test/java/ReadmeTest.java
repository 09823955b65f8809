import java.io.IOException;
import java.nio.file.Files;
import java.nio.file.Path;
import java.util.List;

/** The example of README.md: its lines stand here, too, and answer what their comments say. */
public final class ReadmeTest {
  private static final Check CHECK = new Check();

  public static void main(String[] args) throws IOException {
    example();
    sameLines();
    System.out.println(CHECK.asked() + " answers, " + CHECK.wrong() + " wrong");
    if (CHECK.wrong() > 0) {
      System.exit(1);
    }
  }

  private static void example() {
    RobotCell cell = new RobotCell();
    int job = cell.give(0, 123, 2, 0, -1, -1);
    int ticks = cell.endsAfter(job);
    CHECK.same("ticks", ticks, 9);
    due(1, cell.tick(ticks));
    due(2, cell.job(job, 6));
    due(1, cell.undo());
    for (char letter : "j1:2,1/2w4>2;t10;i07".toCharArray()) {
      cell.feed(letter);
    }
    due(3, cell.perform());
    due(8, cell.job(1, 8));
    due(0, cell.entry(0, 1));
  }

  private static void due(int due, int got) {
    CHECK.same("a call of the example", got, due);
  }

  /** Each line of the example, without its comment, is a part of this file. */
  private static void sameLines() throws IOException {
    String here = Files.readString(Path.of("src/test/java/ReadmeTest.java"));
    List<String> lines = Files.readString(Path.of("README.md")).lines().toList();
    int first = lines.indexOf("```java") + 1;
    int calls = 0;
    for (int i = first; !lines.get(i).equals("```"); i++) {
      String[] parts = lines.get(i).split("//");
      String call = parts[0].strip().replaceFirst(";$", "");
      String said = parts.length > 1 ? parts[1].strip().split("\\W")[0] : "";
      boolean isAnswer = call.startsWith("cell.") && !said.isEmpty();
      CHECK.same("\"" + call + "\" stands in both", here.contains(isAnswer ? "due(" + said + ", " + call : call), true);
      calls++;
    }
    CHECK.same("lines of the example", calls > 5, true);
  }
}
