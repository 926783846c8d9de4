import java.lang.annotation.ElementType;
import java.lang.annotation.Retention;
import java.lang.annotation.RetentionPolicy;
import java.lang.annotation.Target;

/** Names the sentence of the document that a test is of. BoundaryTest looks whether the sentence stands there. */
@Retention(RetentionPolicy.RUNTIME)
@Target(ElementType.METHOD)
@interface Sentence {
    /** The part of the document, as Document names it: "section 3", "behind section 8", "promise 28", .. */
    String of();

    /** The sentence, or some words of it that tell which one it is. */
    String says();
}
