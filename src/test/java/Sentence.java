import java.lang.annotation.ElementType;
import java.lang.annotation.Retention;
import java.lang.annotation.RetentionPolicy;
import java.lang.annotation.Target;

/**
 * What a test stands for: the promises, by number, and the document's own words, which stand in the section
 * of one of these promises or in the terms that they speak of.
 */
@Retention(RetentionPolicy.RUNTIME)
@Target(ElementType.METHOD)
@interface Sentence {
    int[] promise();

    String[] says();
}
