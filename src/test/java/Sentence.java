import java.lang.annotation.ElementType;
import java.lang.annotation.Retention;
import java.lang.annotation.RetentionPolicy;
import java.lang.annotation.Target;

/** Which of the document's words a case holds; Sentences runs it, and DocumentTest looks for words that have none. */
@Retention(RetentionPolicy.RUNTIME)
@Target(ElementType.METHOD)
@interface Sentence {
    /** How the document's heading begins: "Promise 2". */
    String in();

    /** The words as they stand there. */
    String[] says();

    Start from() default Start.ANY;

    /** What an object may have lived through before the case begins. */
    enum Start {
        /** Nothing but refused and reading calls: it is as it was made. */
        AS_MADE,
        /** All but a curve that was found. */
        NONE_FOUND,
        ANY
    }
}
