import java.lang.annotation.ElementType;
import java.lang.annotation.Retention;
import java.lang.annotation.RetentionPolicy;
import java.lang.annotation.Target;

/** The sentence of the document that a test is for. */
@Retention(RetentionPolicy.RUNTIME)
@Target(ElementType.METHOD)
@interface Says {
  /** Where it stands: a promise with its number, or a paragraph of the description. */
  String at();

  /** Its words, as they stand in ../shared/DOC.md. */
  String text();
}
