import java.lang.annotation.ElementType;
import java.lang.annotation.Retention;
import java.lang.annotation.RetentionPolicy;
import java.lang.annotation.Target;

/** Which words of the document a test holds the class to. */
@Retention(RetentionPolicy.RUNTIME)
@Target(ElementType.METHOD)
@interface Sentence {
    /** The heading that they stand under, up to its colon: "Terms", "Promise 2". */
    String of();

    /** The words, as they stand there; several, if they stand apart. */
    String[] says();
}
