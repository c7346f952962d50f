import java.io.IOException;
import java.nio.file.Files;
import java.nio.file.Path;
import java.util.regex.Matcher;
import java.util.regex.Pattern;

/** What of shared/LANGUAGE.md can be seen in the text of the class; run from the project's folder. */
public final class LanguageTest {
    private static final String[] NEVER = {
        "->", "::", "\\bpackage\\b", "\\bcatch\\b", "\\bfinally\\b", "\\bsynchronized\\b", "\\bassert\\b", "\\bSystem\\.(?!arraycopy)",
        "\\w+Exact\\b", "\\bhashCode\\b", "\\btoString\\b", "\\bprotected\\b", "\\bvar\\b", "\\bnew Random\\b", "[^\\x00-\\x7f]",
        "import (?!java\\.util\\.(Arrays|ArrayList|List|Iterator|NoSuchElementException);)",
        "\\bstatic (?!final |class )(?!.*\\()",
        "\\bstatic final (?!int |long |boolean |char |String |class |(int|long|char|byte)\\[\\] )",
        "\\bstatic \\{",
        "throw (?!new (IllegalStateException|IllegalArgumentException|ArrayIndexOutOfBoundsException|UnsupportedOperationException)\\(\"[^\"]*\"\\);)",
    };
    private static final int MOST_LINES = 60;

    public static void main(String[] args) throws IOException {
        String text = Files.readString(Path.of("src/main/java/RasterCover.java"));
        String code = text.replaceAll("(?s)/\\*.*?\\*/", "").replaceAll("//[^\n]*", "");
        for (String never : NEVER) {
            Matcher matcher = Pattern.compile(never).matcher(code);
            boolean found = matcher.find();
            Check.due(never + (found ? " at: " + line(code, matcher.start()) : ""), found, false);
        }
        checkMethodLengths(code);
        Check.finish();
    }

    private static String line(String code, int at) {
        int end = code.indexOf('\n', at);
        return code.substring(code.lastIndexOf('\n', at) + 1, end < 0 ? code.length() : end).trim();
    }

    /** A method ends with the first line that closes a brace as deep as its own line. */
    private static void checkMethodLengths(String code) {
        String[] lines = code.split("\n");
        int methods = 0;
        for (int i = 0; i < lines.length; i++) {
            if (lines[i].matches(" {4,8}(public|private) .*\\).*\\{")) {
                String close = lines[i].replaceAll("\\S.*", "") + "}";
                int end = i;
                while (end < lines.length && !lines[end].equals(close)) {
                    end++;
                }
                methods++;
                Check.due(lines[i].trim() + " is short", end - i <= MOST_LINES, true);
            }
        }
        Check.due("methods were found", methods > 12, true);
    }
}
