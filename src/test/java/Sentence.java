import java.lang.annotation.ElementType;
import java.lang.annotation.Retention;
import java.lang.annotation.RetentionPolicy;
import java.lang.annotation.Target;

/** The words of the document that a test holds. */
@Retention(RetentionPolicy.RUNTIME)
@Target(ElementType.METHOD)
@interface Sentence {
    /** The promises that the words belong to, or that rest on them. */
    int[] promise();

    /** The heading of the terms under which the words stand; without one it is that of the (first) promise. */
    String under() default "";

    String says();
}
