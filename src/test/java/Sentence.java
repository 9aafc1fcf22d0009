import java.lang.annotation.Retention;
import java.lang.annotation.RetentionPolicy;

/** The words of the document that a test holds, and the part of the document in which they stand. */
@Retention(RetentionPolicy.RUNTIME)
@interface Sentence {
    String at();

    String says();
}
