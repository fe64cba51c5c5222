import java.lang.annotation.Retention;
import java.lang.annotation.RetentionPolicy;

/** The head of the document below which a class has a test for each sentence. */
@Retention(RetentionPolicy.RUNTIME)
@interface Head {
    String value();
}
