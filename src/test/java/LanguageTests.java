import java.io.IOException;
import java.nio.file.Files;
import java.nio.file.Path;
import java.util.List;
import java.util.regex.Matcher;
import java.util.regex.Pattern;

/** What can be seen of ../shared/LANGUAGE.md in the lines of the class. It is run where .ci/run runs it. */
public final class LanguageTests {
    private static final Path SOURCE = Path.of("src/main/java/SharedComparers.java");
    private static final String[] WORDS = {"throw", "throws", "try", "catch", "finally", "synchronized", "assert",
        "import", "package", "protected", "native", "volatile", "transient", "enum", "interface", "record",
        "instanceof", "var", "double", "float", "null", "equals", "hashCode", "toString"};
    private static final Pattern CALL = Pattern.compile("\\b(Math|System|Integer|Long|Arrays|String|List)\\.(\\w+)");
    private static final List<String> LIBRARY = List.of("Math.max", "Math.min", "System.arraycopy");
    private static final int LONGEST_METHOD = 60;
    private static final Checks CHECKS = new Checks("LanguageTests");

    private LanguageTests() {
    }

    public static void main(String[] args) throws IOException {
        String source = Files.readString(SOURCE);
        CHECKS.holds("characters 1 to 127", source.chars().allMatch(c -> c > 0 && c < 128));
        String code = source.replaceAll("(?s)/\\*.*?\\*/", "").replaceAll("//[^\n]*", "");
        for (String word : WORDS) {
            CHECKS.holds("no " + word, !Pattern.compile("\\b" + word + "\\b").matcher(code).find());
        }
        for (String sign : new String[] {"->", "::", "\"", "@"}) {
            CHECKS.holds("no " + sign, !code.contains(sign));
        }
        Matcher call = CALL.matcher(code);
        while (call.find()) {
            CHECKS.holds(call.group() + " is in the library", LIBRARY.contains(call.group()));
        }
        makings(code);
        lengths(source.split("\n"));
        CHECKS.close();
    }

    /** Rows and objects are made as a chip is made, none by a call: a run's room does not grow with its calls. */
    private static void makings(String code) {
        String owner = "";
        for (String line : code.split("\n")) {
            Matcher head = Pattern.compile("^ +(?:public|private) (?:static )?(?:\\w+(?:\\[\\])? )?(\\w+)\\(.*").matcher(line);
            if (head.matches()) {
                owner = head.group(1);
            }
            boolean isField = line.trim().startsWith("private final");
            if (Pattern.compile("\\bnew\\b").matcher(line).find() && !isField) {
                CHECKS.holds("made in a constructor, not by " + owner, Character.isUpperCase(owner.charAt(0)));
            }
        }
    }

    private static void lengths(String[] lines) {
        int start = 0;
        for (int i = 0; i < lines.length; i++) {
            if (lines[i].matches("^(    |        )(public|private) [^=;]*\\).*\\{$")) {
                start = i;
            }
            if (lines[i].matches("^(    |        )\\}$")) {
                CHECKS.holds("the method before line " + (i + 1) + " is short", i - start < LONGEST_METHOD || start == 0);
                start = 0;
            }
        }
    }
}
