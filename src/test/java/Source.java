import java.io.IOException;
import java.nio.file.Files;
import java.nio.file.Path;

/** The project's files, as .ci/run sees them: it runs each test in the project's own directory. */
final class Source {
    private static final String CLASS = "src/main/java/TransitSteps.java";

    private Source() {
    }

    static String file(String name) {
        try {
            return Files.readString(Path.of(name));
        } catch (IOException e) {
            throw new AssertionError("the tests are run in the project's directory; there is no " + name, e);
        }
    }

    static String whole() {
        return file(CLASS);
    }

    /** The class without its comments. */
    static String code() {
        return whole().replaceAll("(?s)/\\*.*?\\*/", "").replaceAll("//[^\\n]*", "").strip() + "\n";
    }
}
