import java.io.IOException;
import java.lang.reflect.Field;
import java.lang.reflect.Method;
import java.lang.reflect.Modifier;
import java.nio.file.Files;
import java.nio.file.Path;
import java.util.ArrayList;
import java.util.List;
import java.util.regex.Matcher;
import java.util.regex.Pattern;
import java.util.stream.Stream;

/** README.md tells the truth: of the calls that it shows, and of what there is. It is run where .ci/run runs it. */
public final class ReadmeTests {
    private static final Path PAGE = Path.of("README.md");
    private static final Path TESTS = Path.of("src/test/java");
    private static final Pattern EXAMPLE = Pattern.compile("(?s)```java\n(.*?)```");
    private static final Pattern CALL = Pattern.compile("(?:int (\\w+) = )?chip\\.(\\w+)\\((.*)\\); *// (-?\\w+): .*");
    private static final Pattern TYPING = Pattern.compile("for \\(char sign : \"(.*)\"\\.toCharArray\\(\\)\\) \\{");
    private static final List<String> PLAIN_LINES =
        List.of("SharedComparers chip = new SharedComparers();", "chip.type(sign);", "}");
    private static final Checks CHECKS = new Checks("ReadmeTests");

    private ReadmeTests() {
    }

    public static void main(String[] args) throws IOException {
        String page = Files.readString(PAGE);
        example(page);
        face(page);
        tests(page);
        CHECKS.close();
    }

    private static void example(String page) {
        Matcher shown = EXAMPLE.matcher(page);
        CHECKS.holds("there is an example", shown.find());
        SharedComparers chip = new SharedComparers();
        List<String> names = new ArrayList<>();
        List<Integer> values = new ArrayList<>();
        for (String line : shown.group(1).split("\n")) {
            String plain = line.strip();
            Matcher call = CALL.matcher(plain);
            Matcher typing = TYPING.matcher(plain);
            if (call.matches()) {
                int got = Script.read(asScript(call, names, values)).get(0).on(chip);
                CHECKS.due(plain, got, Script.read("count(0) " + call.group(4)).get(0).due());
                if (call.group(1) != null) {
                    names.add(call.group(1));
                    values.add(got);
                }
            } else if (typing.matches()) {
                typing.group(1).chars().forEach(sign -> chip.type((char) sign));
            } else {
                CHECKS.holds("a call with its answer: " + plain, PLAIN_LINES.contains(plain));
            }
        }
    }

    /** The call with numbers for names and characters. */
    private static String asScript(Matcher call, List<String> names, List<Integer> values) {
        String inside = call.group(3).replace(" ", "");
        if (inside.matches("'.'")) {
            inside = Integer.toString(inside.charAt(1));
        }
        for (int i = 0; i < names.size(); i++) {
            inside = inside.replaceAll("\\b" + names.get(i) + "\\b", Integer.toString(values.get(i)));
        }
        return call.group(2) + "(" + inside + ")";
    }

    private static void face(String page) {
        String table = EXAMPLE.matcher(page).replaceAll("");
        for (Method method : SharedComparers.class.getDeclaredMethods()) {
            if (Modifier.isPublic(method.getModifiers())) {
                CHECKS.holds(method.getName() + " is named", table.contains("`" + method.getName() + "("));
            }
        }
        for (Field field : SharedComparers.class.getFields()) {
            CHECKS.holds(field.getName() + " is named", table.contains("`" + field.getName() + "`"));
        }
    }

    private static void tests(String page) throws IOException {
        try (Stream<Path> files = Files.list(TESTS)) {
            files.map(file -> file.getFileName().toString()).filter(name -> name.endsWith("Tests.java")).sorted().forEach(name ->
                CHECKS.holds(name + " is named", page.contains("| `" + name.substring(0, name.indexOf('.')) + "` |")));
        }
        Matcher row = Pattern.compile("(?m)^\\| `(\\w+Tests)` \\|").matcher(page);
        while (row.find()) {
            CHECKS.holds(row.group(1) + " is there", Files.exists(TESTS.resolve(row.group(1) + ".java")));
        }
    }
}
