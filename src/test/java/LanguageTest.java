import java.io.IOException;
import java.nio.file.Files;
import java.nio.file.Path;
import java.util.List;
import java.util.regex.Matcher;
import java.util.regex.Pattern;

/** What a look at the text can tell of the rules of LANGUAGE.md; run from the project's directory. */
public final class LanguageTest {
    private static final Path SOURCE = Path.of("src/main/java/CommitGroups.java");
    private static final int LONGEST_METHOD = 60;
    private static final int MOST_CLASSES = 12;

    private static final String[] FORBIDDEN = {
        "\\bthrow\\b", "\\bthrows\\b", "\\btry\\b", "\\bcatch\\b", "\\bsynchronized\\b", "\\bassert\\b",
        "->", "::", "\\bpackage\\b", "\\bprotected\\b", "\\bequals\\b", "\\bhashCode\\b", "\\btoString\\b",
        "Exact\\b", "\\bRandom\\b", "\\bThread\\b", "\\bSystem\\.(?!arraycopy\\b)", "@",
        "\\bimport\\s+(?!java\\.util\\.(Arrays|ArrayList|List|Iterator);)", "static\\s*\\{",
        "\\bstatic\\s+(?!final\\b)[\\w\\[\\]]+\\s+\\w+\\s*[=;]",
    };

    private static final Due DUE = new Due();

    public static void main(String[] args) throws IOException {
        DUE.part("language");
        String code = Files.readString(SOURCE).replaceAll("(?s)/\\*.*?\\*/", "").replaceAll("//[^\n]*", "");
        for (String forbidden : FORBIDDEN) {
            Matcher matcher = Pattern.compile(forbidden).matcher(code);
            DUE.no(forbidden + (matcher.find() ? " stands in the program" : ""), matcher.reset().find());
        }
        Matcher classes = Pattern.compile("\\b(class|record|enum|interface)\\s+\\w+").matcher(code);
        DUE.yes("at most " + MOST_CLASSES + " classes", classes.results().count() <= MOST_CLASSES);
        methodsAreShort(Files.readAllLines(SOURCE));
        DUE.end();
    }

    // A method begins with a line that ends with ") {" and ends with a lone brace of the same indent.
    private static void methodsAreShort(List<String> lines) {
        for (int first = 0; first < lines.size(); first++) {
            String line = lines.get(first);
            String indent = line.substring(0, line.length() - line.stripLeading().length());
            if (line.endsWith(") {")) {
                int last = first;
                while (last < lines.size() && !lines.get(last).equals(indent + "}")
                        && !lines.get(last).startsWith(indent + "} else")) {
                    last++;
                }
                DUE.yes("short: " + line.strip(), last - first < LONGEST_METHOD);
            }
        }
    }
}
