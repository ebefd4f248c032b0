import java.lang.annotation.ElementType;
import java.lang.annotation.Retention;
import java.lang.annotation.RetentionPolicy;
import java.lang.annotation.Target;

/** Marks a test with the words of the document that it would miss if they were broken. */
@Retention(RetentionPolicy.RUNTIME)
@Target(ElementType.METHOD)
@interface Sentence {

    /** The number of the promise in which the words stand; 0 for those ahead of the promises. */
    int promise() default 0;

    /** The words, as they stand in one line of the document. */
    String says();
}
