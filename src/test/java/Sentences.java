import java.lang.reflect.InvocationTargetException;
import java.lang.reflect.Method;
import java.util.Arrays;
import java.util.Comparator;

/** Runs the tests of a class: its methods that name a sentence of the document. */
final class Sentences {
  private Sentences() {}

  static void run(Class<?> tests) {
    Check check = new Check();
    Method[] methods = tests.getDeclaredMethods();
    Arrays.sort(methods, Comparator.comparing(Method::getName));
    int sentences = 0;
    int failures = 0;
    for (Method method : methods) {
      Says says = method.getAnnotation(Says.class);
      if (says == null) {
        continue;
      }
      sentences++;
      int asked = check.asked();
      check.about(says);
      if (!isRun(method, check)) {
        failures++;
      } else if (check.asked() == asked) {
        failures++;
        System.out.println("  " + method.getName() + " asks nothing");
      }
    }
    System.out.println(sentences + " sentences, " + check.asked() + " answers, "
        + (check.wrong() + failures) + " wrong");
    if (sentences == 0 || check.wrong() + failures > 0) {
      System.exit(1);
    }
  }

  private static boolean isRun(Method method, Check check) {
    try {
      method.invoke(null, check);
      return true;
    } catch (InvocationTargetException e) {
      System.out.println("  " + method.getName() + " was ended by " + e.getCause());
    } catch (IllegalAccessException e) {
      System.out.println("  " + method.getName() + " cannot be called");
    }
    return false;
  }
}
