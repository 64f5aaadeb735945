import java.io.IOException;
import java.io.UncheckedIOException;
import java.nio.file.Files;
import java.nio.file.Path;
import java.util.List;

/** The files that the tests read line by line. */
final class Lines {
    private Lines() {
    }

    static List<String> ofDocument() {
        return of("../shared/DOC.md");
    }

    static List<String> of(String file) {
        try {
            return Files.readAllLines(Path.of(file));
        } catch (IOException e) {
            throw new UncheckedIOException(e);
        }
    }
}
