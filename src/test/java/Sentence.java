import java.lang.annotation.Retention;
import java.lang.annotation.RetentionPolicy;

/** The words of the document of which a test says whether they hold. */
@Retention(RetentionPolicy.RUNTIME)
@interface Sentence {
    String[] value();
}
