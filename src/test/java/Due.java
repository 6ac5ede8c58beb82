import java.io.IOException;
import java.nio.file.Files;
import java.nio.file.Path;

/** Compares answers with what is due, prints every wrong one, and ends the program accordingly. */
final class Due {
    private static final Path DOCUMENT = Path.of("../shared/DOC.md");

    private int wrong;
    private int compared;
    private String part = "";

    void part(String name) {
        part = name;
    }

    /** A part that stands for words of the document: they must stand there still. */
    void sentence(String words) {
        part = "'" + words + "'";
        yes("in the document", !Files.exists(DOCUMENT) || inOneLine(DOCUMENT).contains(words));
    }

    private static String inOneLine(Path file) {
        try {
            return Files.readString(file).replaceAll("\\s+", " ");
        } catch (IOException e) {
            return e.toString();
        }
    }

    void same(String call, long got, long want) {
        compared++;
        if (got != want) {
            wrong++;
            System.out.println(part + ": " + call + " answered " + got + ", due is " + want);
        }
    }

    void yes(String call, boolean got) {
        same(call, got ? 1 : 0, 1);
    }

    void no(String call, boolean got) {
        same(call, got ? 1 : 0, 0);
    }

    int wrong() {
        return wrong;
    }

    void end() {
        System.out.println(compared + " answers compared, " + wrong + " not as due");
        if (wrong != 0 || compared == 0) {
            System.exit(1);
        }
    }
}
