import java.lang.annotation.Retention;
import java.lang.annotation.RetentionPolicy;

/** The document's words for which a boundary case stands; they must stand in ../shared/DOC.md. */
@Retention(RetentionPolicy.RUNTIME)
@interface Says {
    String[] value();
}
