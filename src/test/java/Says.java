import java.lang.annotation.ElementType;
import java.lang.annotation.Retention;
import java.lang.annotation.RetentionPolicy;
import java.lang.annotation.Target;

/**
 * The words of ../shared/DOC.md that a test of an edge is about. The section is told by the name of the
 * test: p06_.. is Promise 6, t2_.. is ==== 2 of Terms, w_.. is "What it is".
 */
@Retention(RetentionPolicy.RUNTIME)
@Target(ElementType.METHOD)
@interface Says {
  String value();
}
