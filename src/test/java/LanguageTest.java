import java.io.IOException;
import java.nio.file.Files;
import java.nio.file.Path;
import java.util.ArrayDeque;
import java.util.Deque;
import java.util.regex.Matcher;
import java.util.regex.Pattern;

/** What of shared/LANGUAGE.md can be seen in the text of the class; run from the project's folder. */
public final class LanguageTest {
    /** A rule's number, and what its words rule out. */
    private static final String[][] NEVER = {
        {"0", "\\bpackage\\b"},
        {"1", "\\bprotected\\b"},
        {"2", "(?m)^(?!.*\\b(case|default)\\b).*->"},
        {"2", "::"},
        {"4", "\\bimport (?!java\\.util\\.(Arrays|ArrayList|List|Iterator|NoSuchElementException);)"},
        {"4", "\\bSystem\\.(?!arraycopy\\b)"},
        {"4", "\\w+Exact\\b"},
        {"5", "\\bstatic (?!final\\b|class\\b|abstract\\b|record\\b|enum\\b|interface\\b)(?![^;={]*\\()"},
        {"5", "\\bstatic final (?!class\\b|record\\b|(int|long|boolean|char|String|(int|long|char|byte)\\[\\]) \\w+( =|;)"
                + "|\\w+\\[\\] \\w+ = \\w+\\.values\\(\\);)(?![^;={]*\\()"},
        {"5", "\\bstatic\\s*\\{"},
        {"6", "\\bthrow (?!new (IllegalState|IllegalArgument|IndexOutOfBounds|ArrayIndexOutOfBounds|Arithmetic"
                + "|UnsupportedOperation|NoSuchElement|Runtime)Exception\\((\"\")?\\);)"},
        {"6", "\\bcatch\\s*\\((?!(IllegalState|IllegalArgument|Arithmetic|UnsupportedOperation|NoSuchElement)Exception\\b)"},
        {"6", "\\b(finally|synchronized|assert)\\b"},
        {"6", "\\b(String toString|int hashCode|boolean equals)\\s*\\("},
        {"13", "\\b(Random|Thread|File|Runtime|ProcessBuilder|Socket)\\b"},
    };
    private static final Pattern WORDS_OR_COMMENT = Pattern.compile(
            "\"(?:\\\\.|[^\"\\\\])*\"|'(?:\\\\.|[^'\\\\])*'|//[^\n]*|/\\*[\\s\\S]*?\\*/");
    private static final Pattern METHOD = Pattern.compile("(\\w+\\s+)?(\\w+)\\s*\\(([^()]*)\\)\\s*(throws [\\w.,\\s]+)?$");
    private static final String NO_METHODS = "if|for|while|switch|catch|try|return|else";
    private static final int MOST_LINES = 60;
    private static final int MOST_PARAMETERS = 7;
    private static final int METHODS_OF_THE_FACE = 13;

    public static void main(String[] args) throws IOException {
        String text = Files.readString(Path.of("src/main/java/RasterCover.java"));
        Check.due("rule 3, signs 1 to 127 alone", text.matches("[\\x01-\\x7f]*") && !text.contains("\\u"), true);
        String code = bare(text);
        for (String[] never : NEVER) {
            Matcher matcher = Pattern.compile(never[1]).matcher(code);
            boolean found = matcher.find();
            Check.due("rule " + never[0] + ", " + never[1] + (found ? " at: " + line(code, matcher.start()) : ""), found, false);
        }
        checkMethods(code);
        Check.finish();
    }

    /** The text without its comments, and with empty words, line by line as it was. */
    private static String bare(String text) {
        return WORDS_OR_COMMENT.matcher(text).replaceAll(found -> {
            String sign = found.group().substring(0, 1);
            return sign.equals("/") ? found.group().replaceAll("[^\n]", "") : sign + sign;
        });
    }

    private static String line(String code, int at) {
        int end = code.indexOf('\n', at);
        return code.substring(code.lastIndexOf('\n', at) + 1, end < 0 ? code.length() : end).trim();
    }

    /** A method is a block that stands behind a name with parameters. */
    private static void checkMethods(String code) {
        Deque<Integer> starts = new ArrayDeque<>();
        int methods = 0;
        for (int at = 0; at < code.length(); at++) {
            if (code.charAt(at) == '{') {
                starts.push(at);
            } else if (code.charAt(at) == '}') {
                int start = starts.pop();
                Matcher header = METHOD.matcher(header(code, start));
                if (header.find() && !header.group(2).matches(NO_METHODS) && !"new ".equals(header.group(1))) {
                    methods++;
                    checkMethod(header, code.substring(start, at));
                }
            }
        }
        Check.due("all methods were found", methods >= METHODS_OF_THE_FACE, true);
    }

    private static String header(String code, int start) {
        int from = start;
        while (from > 0 && ";{}".indexOf(code.charAt(from - 1)) < 0) {
            from--;
        }
        return code.substring(from, start).trim();
    }

    private static void checkMethod(Matcher header, String body) {
        String name = header.group(2);
        boolean constructor = Character.isUpperCase(name.charAt(0));
        Check.due("rule 11, lines of " + name, body.split("\n").length <= MOST_LINES, true);
        Check.due("rule 11, parameters of " + name, header.group(3).split(",").length <= MOST_PARAMETERS, true);
        Check.due("rule 6, a throw in the constructor of " + name, constructor && body.contains("throw "), false);
        Check.due("rule 6, a throw in a method with a catch, " + name,
                body.matches("(?s).*\\bcatch\\b.*") && body.contains("throw "), false);
    }
}
