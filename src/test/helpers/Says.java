import java.lang.annotation.ElementType;
import java.lang.annotation.Retention;
import java.lang.annotation.RetentionPolicy;
import java.lang.annotation.Target;

/** The words of the document that a test holds the class to. */
@Retention(RetentionPolicy.RUNTIME)
@Target(ElementType.METHOD)
@interface Says {
    /** The section of the document: "WHO", .., "ERRORS", "Promise 1", .. */
    String in();

    /** The words, as they stand there. */
    String[] value();
}
