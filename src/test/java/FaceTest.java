import java.lang.reflect.Field;
import java.lang.reflect.Method;
import java.lang.reflect.Modifier;
import java.util.Set;
import java.util.TreeSet;

/** Rule 1 of LANGUAGE.md: the face of the document and no other member that is seen. */
public final class FaceTest {
  private static final Check CHECK = new Check();
  private static final Set<String> FACE = Set.of("setInterlock", "setReach", "setCapacity", "supply", "zone",
      "buffer", "part", "give", "withdraw", "job", "arm", "waiting", "tick", "reason", "wouldBe", "endsAfter",
      "idleAfter", "isSafe", "entry", "account", "use", "meanDuration", "feed", "perform", "undo", "save",
      "restore");

  public static void main(String[] args) {
    Class<?> face = RobotCell.class;
    CHECK.same("the class is final", Modifier.isFinal(face.getModifiers()), true);
    CHECK.same("constructors", face.getDeclaredConstructors().length, 1);
    Set<String> seen = new TreeSet<>();
    for (Method method : face.getDeclaredMethods()) {
      boolean isPrivate = Modifier.isPrivate(method.getModifiers());
      CHECK.same(method.getName() + " is private", isPrivate, !FACE.contains(method.getName()));
      if (!isPrivate) {
        seen.add(method.getName());
      }
    }
    CHECK.sameText("methods", seen.toString(), new TreeSet<>(FACE).toString());
    for (Field field : face.getDeclaredFields()) {
      CHECK.same(field.getName() + " is private", Modifier.isPrivate(field.getModifiers()), true);
    }
    for (Class<?> inside : face.getDeclaredClasses()) {
      CHECK.same(inside.getName() + " is static", Modifier.isStatic(inside.getModifiers()), true);
      CHECK.same(inside.getName() + " is hidden",
          (inside.getModifiers() & (Modifier.PUBLIC | Modifier.PROTECTED)) == 0, true);
      for (Method method : inside.getDeclaredMethods()) {
        CHECK.same(inside.getName() + '.' + method.getName() + " bears a name of the face",
            FACE.contains(method.getName()), false);
      }
    }
    System.out.println(CHECK.asked() + " answers, " + CHECK.wrong() + " wrong");
    if (CHECK.wrong() > 0) {
      System.exit(1);
    }
  }
}
