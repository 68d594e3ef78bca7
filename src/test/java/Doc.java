import java.io.IOException;
import java.nio.charset.StandardCharsets;
import java.nio.file.Files;
import java.nio.file.Path;
import java.util.HashMap;
import java.util.Map;
import java.util.Set;
import java.util.TreeSet;
import java.util.regex.Matcher;
import java.util.regex.Pattern;

/** The document by its parts: a test names the sentence that it tests, word for word. */
final class Doc {
    private static final Map<String, String> PARTS = parts();
    private static final Set<String> NAMED = new TreeSet<>();
    private static String sentence = "";

    private Doc() {
    }

    /** From here on this sentence is tested. */
    static void says(String part, String words) {
        NAMED.add(part);
        sentence = part + ", \"" + words + "\"";
        if (PARTS.isEmpty()) return;
        Check.is(sentence + ": stands in the document", part(part).contains(words));
    }

    /** The words of a part, with single blanks between; none without the document. */
    static String part(String name) {
        return PARTS.getOrDefault(name, "");
    }

    static String sentence() {
        return sentence;
    }

    static void mustBeNamed(String part) {
        Check.is(part + " has a test", NAMED.contains(part));
    }

    /** "Terms I" .. "Terms IV", "Promise 1" .. "Promise 43" and the other headings. */
    private static Map<String, String> parts() {
        Map<String, String> parts = new HashMap<>();
        String text = text();
        Matcher heads = Pattern.compile("(?m)^## ([^:\n]*)[^\n]*$").matcher(text);
        String head = null;
        int from = 0;
        while (heads.find()) {
            if (head != null) parts.put(head, flat(text.substring(from, heads.start())));
            head = heads.group(1);
            from = heads.end();
        }
        if (head != null) parts.put(head, flat(text.substring(from)));
        String terms = parts.getOrDefault("Terms", "");
        String[] numbers = {"I. HOUSES", "II. TEXTS", "III. To", "IV. SUMMERS"};
        for (int i = 0; i < 4; i++) {
            int begin = terms.indexOf(numbers[i]);
            int end = i < 3 ? terms.indexOf(numbers[i + 1]) : terms.length();
            if (begin >= 0 && end > begin) {
                parts.put("Terms " + numbers[i].substring(0, numbers[i].indexOf('.')), terms.substring(begin, end));
            }
        }
        return parts;
    }

    private static String flat(String text) {
        return text.replace("```text", " ").replace("`", "").replaceAll("\\s+", " ");
    }

    private static String text() {
        try {
            return Files.readString(Path.of("../shared/DOC.md"), StandardCharsets.UTF_8);
        } catch (IOException e) {
            System.out.println("../shared/DOC.md can't be read: the tests don't look for their sentences");
            return "";
        }
    }
}
