import java.lang.annotation.ElementType;
import java.lang.annotation.Retention;
import java.lang.annotation.RetentionPolicy;
import java.lang.annotation.Target;

/** Names the sentence of the document that a test stands for. */
@Retention(RetentionPolicy.RUNTIME)
@Target(ElementType.METHOD)
@interface Sentence {
    /** The number of the promise that would be broken. */
    int promise();

    /** The section of the document where the sentence stands, if it is not that of the promise. */
    String in() default "";

    /** The sentence as it stands there, or the part of it that names the boundary case. */
    String says();
}
