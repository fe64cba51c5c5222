import java.io.IOException;
import java.nio.file.Files;
import java.nio.file.Path;
import java.util.ArrayList;
import java.util.Arrays;
import java.util.LinkedHashMap;
import java.util.List;
import java.util.Map;
import java.util.regex.Matcher;
import java.util.regex.Pattern;

/** The document's heads, the words below them, and which of the words are quoted by tests. */
final class Document {
    /** A face's line begins so; FaceTest looks at it. */
    private static final Pattern SIGNATURE = Pattern.compile("^`[^`]*\\([^`]*`: ");
    private static final Pattern WORD = Pattern.compile("[A-Za-z0-9]+");

    private final Map<String, StringBuilder> texts = new LinkedHashMap<>();
    private final Map<String, List<String>> quotes = new LinkedHashMap<>();

    Document(Path file) throws IOException {
        String head = "";
        for (String line : Files.readAllLines(file)) {
            if (line.startsWith("#") || line.equals("Snapshots, undo")) {
                head = line.replaceFirst("^#+ ", "");
            } else if (!line.isBlank() && !tellsOnlyOfAnOrder(line)) {
                String words = SIGNATURE.matcher(line).replaceFirst("").replaceFirst("^- ", "");
                texts.computeIfAbsent(head, key -> new StringBuilder()).append(words).append(' ');
            }
        }
    }

    /** From "Terms" to the last promise. */
    private static boolean isPromised(String head) {
        return !List.of("", "TombolaBooks", "What it is", "The public face", "Not promised").contains(head);
    }

    /** Lines that tell how the face is parted, without a word about what it does. */
    private static boolean tellsOnlyOfAnOrder(String line) {
        return line.startsWith("Ahead of the calls") && !line.contains("nothing is changed");
    }

    void quote(String head, String words) {
        String text = texts.getOrDefault(head, new StringBuilder()).toString();
        Check.record(text.contains(words), "not in the document below \"" + head + "\": " + words);
        quotes.computeIfAbsent(head, key -> new ArrayList<>()).add(words);
    }

    /** Each word of the terms and promises must be in a sentence that a test is for. */
    void checkThatAllIsQuoted() {
        int heads = 0;
        for (String head : texts.keySet()) {
            if (isPromised(head)) {
                heads++;
                checkThatAllIsQuotedBelow(head);
            }
        }
        Check.due("heads of terms and promises", heads, 10 + 32);
    }

    private void checkThatAllIsQuotedBelow(String head) {
        String text = texts.get(head).toString();
        boolean[] quoted = new boolean[text.length()];
        for (String words : quotes.getOrDefault(head, List.of())) {
            for (int at = text.indexOf(words); at >= 0; at = text.indexOf(words, at + 1)) {
                Arrays.fill(quoted, at, at + words.length(), true);
            }
        }
        checkWords(head, text, quoted);
    }

    private static void checkWords(String head, String text, boolean[] quoted) {
        StringBuilder bare = new StringBuilder();
        Matcher words = WORD.matcher(text);
        while (words.find()) {
            bare.append(quoted[words.start()] ? "" : words.group() + " ");
        }
        Check.record(bare.length() == 0, "no test below \"" + head + "\" is for: " + bare);
    }
}
