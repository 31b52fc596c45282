import java.lang.annotation.Retention;
import java.lang.annotation.RetentionPolicy;

/**
 * What a test asks for, in the document's own words: by them the sentence is found from the test, and the test from the
 * sentence. SentencesTest looks up whether the words stand there.
 */
@Retention(RetentionPolicy.RUNTIME)
@interface Sentence {
    /** The part of ../shared/DOC.md: the line above it, or "Promise n". */
    String at();

    String[] says();
}
