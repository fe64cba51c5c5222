import java.io.IOException;
import java.nio.file.Files;
import java.nio.file.Path;
import java.util.ArrayList;
import java.util.LinkedHashMap;
import java.util.List;
import java.util.Map;
import java.util.regex.Matcher;
import java.util.regex.Pattern;

/** The document's heads from "Terms" to the last promise, and which of the words below are quoted. */
final class Document {
    /** A face's line begins so; FaceTest looks at it. */
    private static final Pattern SIGNATURE = Pattern.compile("^`[^`]*\\([^`]*`: ");
    private static final Pattern WORD = Pattern.compile("[A-Za-z0-9]+");

    private final Map<String, StringBuilder> texts = new LinkedHashMap<>();
    private final Map<String, List<String>> quotes = new LinkedHashMap<>();

    Document(Path file) throws IOException {
        String head = "";
        for (String line : Files.readAllLines(file)) {
            if (line.startsWith("#") || line.equals("Snapshots, undo")) {
                head = line.replaceFirst("^#+ ", "");
            } else if (!line.isBlank() && isPromised(head) && !tellsOnlyOfAnOrder(line)) {
                String words = SIGNATURE.matcher(line).replaceFirst("").replaceFirst("^- ", "");
                texts.computeIfAbsent(head, key -> new StringBuilder()).append(words).append(' ');
            }
        }
    }

    private static boolean isPromised(String head) {
        return !List.of("", "TombolaBooks", "What it is", "The public face", "Not promised").contains(head);
    }

    /** Lines that tell how the face is parted, without a word about what it does. */
    private static boolean tellsOnlyOfAnOrder(String line) {
        return line.startsWith("Ahead of the calls") && !line.contains("nothing is changed");
    }

    void quote(String head, String words) {
        String text = texts.getOrDefault(head, new StringBuilder()).toString();
        Check.record(text.contains(words), "not in the document below \"" + head + "\": " + words);
        quotes.computeIfAbsent(head, key -> new ArrayList<>()).add(words);
    }

    /** Each word of the document must be in a sentence that a test is for. */
    void checkThatAllIsQuoted() {
        Check.record(texts.size() == 32 + 10, "the document has " + texts.size() + " heads");
        for (Map.Entry<String, StringBuilder> section : texts.entrySet()) {
            String text = section.getValue().toString();
            boolean[] quoted = new boolean[text.length()];
            for (String words : quotes.getOrDefault(section.getKey(), List.of())) {
                for (int at = text.indexOf(words); at >= 0; at = text.indexOf(words, at + 1)) {
                    java.util.Arrays.fill(quoted, at, at + words.length(), true);
                }
            }
            checkWords(section.getKey(), text, quoted);
        }
    }

    private static void checkWords(String head, String text, boolean[] quoted) {
        StringBuilder bare = new StringBuilder();
        Matcher words = WORD.matcher(text);
        while (words.find()) {
            bare.append(quoted[words.start()] ? "" : words.group() + " ");
        }
        Check.record(bare.length() == 0, "no test below \"" + head + "\" is for: " + bare);
    }
}
