import java.io.IOException;
import java.io.UncheckedIOException;
import java.nio.file.Files;
import java.nio.file.Path;

/** The pages that tests read as they are printed. Tests run in the project's folder, as .ci/run starts them. */
final class Page {
    static final Path SOURCE = Path.of("src/main/java/ScaleInspection.java");
    static final Path TESTS = Path.of("src/test/java");

    private Page() {
    }

    static String document() {
        return read(Path.of("../shared/DOC.md"));
    }

    static String readme() {
        return read(Path.of("README.md"));
    }

    /** What stands between two marks, each of which must be there. */
    static String between(String text, String before, String behind) {
        int from = text.indexOf(before);
        int to = from < 0 ? -1 : text.indexOf(behind, from + before.length());
        if (to < 0) {
            throw new IllegalStateException("the page has no part from \"" + before + "\" to \"" + behind + "\"");
        }
        return text.substring(from + before.length(), to);
    }

    private static String read(Path path) {
        try {
            return Files.readString(path);
        } catch (IOException missing) {
            throw new UncheckedIOException(missing);
        }
    }
}
