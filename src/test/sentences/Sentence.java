import java.lang.annotation.Retention;
import java.lang.annotation.RetentionPolicy;

/** The words of the document, in full, that a test is for. */
@Retention(RetentionPolicy.RUNTIME)
@interface Sentence {
    String value();
}
