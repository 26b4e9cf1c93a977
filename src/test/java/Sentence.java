import java.lang.annotation.ElementType;
import java.lang.annotation.Retention;
import java.lang.annotation.RetentionPolicy;
import java.lang.annotation.Target;

/** Which sentence of the document a boundary test is of, and of which promises it is. */
@Retention(RetentionPolicy.RUNTIME)
@Target(ElementType.METHOD)
@interface Sentence {
    int[] promises();

    /** The sentence, or the part of it that tells the boundary, as it stands in the document. */
    String words();
}
