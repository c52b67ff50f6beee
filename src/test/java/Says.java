import java.lang.annotation.ElementType;
import java.lang.annotation.Retention;
import java.lang.annotation.RetentionPolicy;
import java.lang.annotation.Target;

/** Of a test: the sentence of the document that it would fail by, if just that one were broken. */
@Retention(RetentionPolicy.RUNTIME)
@Target(ElementType.METHOD)
@interface Says {
    /** The promise that the sentence stands in, or that rests on it, if it stands among the terms; 0: none of them. */
    int promise();

    /** Words of the document, letter by letter (but for line ends). */
    String words();
}
