import java.lang.annotation.ElementType;
import java.lang.annotation.Retention;
import java.lang.annotation.RetentionPolicy;
import java.lang.annotation.Target;

/** The sentence of the document, or the part of it, that a test is for; SentencesTest looks whether it stands there. */
@Retention(RetentionPolicy.RUNTIME)
@Target(ElementType.METHOD)
@interface Says {
    /** "Terms", "What it is", or the number of the promise. */
    String in();

    String sentence();
}
