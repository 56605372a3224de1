import java.lang.annotation.Retention;
import java.lang.annotation.RetentionPolicy;

/** The words of the document that a test holds the class to, and the promise that they belong to. */
@Retention(RetentionPolicy.RUNTIME)
@interface Says {
    int promise();

    String words();
}
