import java.io.IOException;
import java.nio.file.Files;
import java.nio.file.Path;
import java.util.ArrayList;
import java.util.List;
import java.util.regex.Matcher;
import java.util.regex.Pattern;

/**
 * Makes a test of the examples in README.md: the first argument is README.md, the second one the
 * directory that ReadmeTest.java is written to. An example is a block of Java; each call of it that
 * is a line of its own tells behind it what it answers.
 */
public final class ReadmeExamples {
    private static final Pattern CALL =
            Pattern.compile("(books\\.[^;]*); *// (-?[0-9][0-9.]*|throws \\w+): \\S.*");

    private final StringBuilder methods = new StringBuilder();
    private final StringBuilder calls = new StringBuilder();
    private int examples;

    private ReadmeExamples() {
    }

    public static void main(String[] arguments) throws IOException {
        ReadmeExamples readme = new ReadmeExamples();
        for (List<String> example : blocksOfJava(Files.readAllLines(Path.of(arguments[0])))) {
            readme.add(example);
        }
        Files.writeString(Path.of(arguments[1], "ReadmeTest.java"), readme.test());
    }

    private static List<List<String>> blocksOfJava(List<String> lines) {
        List<List<String>> blocks = new ArrayList<>();
        boolean isInside = false;
        for (String line : lines) {
            if (line.equals("```java")) {
                blocks.add(new ArrayList<>());
                isInside = true;
            } else if (line.startsWith("```")) {
                isInside = false;
            } else if (isInside) {
                blocks.get(blocks.size() - 1).add(line);
            }
        }
        return blocks;
    }

    private void add(List<String> example) {
        examples++;
        // As it is printed it need only compile: a call that throws would end it.
        addMethod("asPrinted" + examples, example);
        List<String> asked = new ArrayList<>();
        for (String line : example) {
            asked.add(line.startsWith("books.") ? askedFor(line) : line);
        }
        addMethod("answers" + examples, asked);
        calls.append("        answers").append(examples).append("();\n");
    }

    private static String askedFor(String line) {
        Matcher call = CALL.matcher(line);
        if (!call.matches()) {
            return "Check.record(false, " + quoted(line + " tells no answer") + ");";
        }
        String answer = call.group(2).replace("throws ", "throws java.lang.");
        return "Check.dueTold(" + quoted(call.group(1)) + ", " + quoted(answer) + ", () -> " + call.group(1) + ");";
    }

    private static String quoted(String text) {
        return "\"" + text.replace("\\", "\\\\").replace("\"", "\\\"") + "\"";
    }

    private void addMethod(String name, List<String> lines) {
        methods.append("    private static void ").append(name).append("() {\n");
        for (String line : lines) {
            methods.append("        ").append(line).append('\n');
        }
        methods.append("    }\n\n");
    }

    private String test() {
        return "public final class ReadmeTest {\n" + methods
                + "    public static void main(String[] arguments) {\n" + calls
                + "        Check.finish();\n    }\n}\n";
    }
}
