import java.lang.annotation.Retention;
import java.lang.annotation.RetentionPolicy;

/** The words of ../shared/DOC.md that a test holds the class against. */
@Retention(RetentionPolicy.RUNTIME)
@interface Sentence {
    /** "Promise N", "Terms N", or "Terms" for what stands ahead of their numbers. */
    String of();

    String[] says();
}
