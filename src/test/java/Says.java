import java.lang.annotation.ElementType;
import java.lang.annotation.Retention;
import java.lang.annotation.RetentionPolicy;
import java.lang.annotation.Target;

/** Marks a boundary test with the sentence of ../shared/DOC.md that it belongs to. */
@Retention(RetentionPolicy.RUNTIME)
@Target(ElementType.METHOD)
@interface Says {
    /** The section's heading up to its colon, as in "Promise 3" or "Scope". */
    String in();

    /** The document's words, without backticks. */
    String sentence();
}
