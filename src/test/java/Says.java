import java.lang.annotation.Retention;
import java.lang.annotation.RetentionPolicy;

/** The words of the document that a test is for, letter by letter. */
@Retention(RetentionPolicy.RUNTIME)
@interface Says {
    int OPENING = -1, TERMS = 0;

    /** The promise's number, or where else the words stand. */
    int of() default TERMS;

    String value();
}
