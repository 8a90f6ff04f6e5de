import java.lang.annotation.ElementType;
import java.lang.annotation.Retention;
import java.lang.annotation.RetentionPolicy;
import java.lang.annotation.Target;

/**
 * Marks a test of the sentence of the document that it quotes: the number of the promise, or
 * "Rootsong" or "Terms" for what stands ahead of the promises, then a colon, then the words.
 */
@Retention(RetentionPolicy.RUNTIME)
@Target(ElementType.METHOD)
@interface Says {
    String value();
}
