import java.lang.annotation.ElementType;
import java.lang.annotation.Retention;
import java.lang.annotation.RetentionPolicy;
import java.lang.annotation.Target;

/**
 * The words of ../shared/DOC.md that a test speaks of. The promise is the number in the test's name;
 * a test whose name begins with "terms" speaks of what the document says ahead of the promises.
 */
@Retention(RetentionPolicy.RUNTIME)
@Target(ElementType.METHOD)
@interface Sentence {
    String value();
}
