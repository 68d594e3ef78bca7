import java.nio.charset.StandardCharsets;
import java.nio.file.Files;
import java.nio.file.Path;
import java.util.ArrayList;
import java.util.Arrays;
import java.util.List;
import java.util.regex.Matcher;
import java.util.regex.Pattern;
import java.util.stream.Stream;

/** Each word of the document from "Terms" to promise 43 stands in a sentence that some test names by says(..). */
public final class CoverTest {
    private record Said(String part, String words) {
    }

    public static void main(String[] args) throws Exception {
        List<Said> said = said();
        Check.is("sentences said: " + said.size(), said.size() > 100);
        List<String> parts = new ArrayList<>(List.of("Terms I", "Terms II", "Terms III", "Terms IV"));
        for (int p = 1; p <= 43; p++) parts.add("Promise " + p);
        for (String part : parts) cover(part, said);
        Check.finish("CoverTest");
    }

    private static void cover(String part, List<Said> said) {
        String text = Doc.part(part);
        boolean[] named = new boolean[text.length()];
        // What a promise's call is named and given is FaceTest's; numerals and "(On paper:)" tell nothing.
        Matcher head = Pattern.compile("^[^:]*\\):|^(I|II|III|IV)\\.|\\(On paper:\\)").matcher(text);
        while (head.find()) Arrays.fill(named, head.start(), head.end(), true);
        for (Said s : said) {
            if (!s.part.equals(part)) continue;
            for (int at = text.indexOf(s.words); at >= 0; at = text.indexOf(s.words, at + 1)) {
                Arrays.fill(named, at, at + s.words.length(), true);
            }
        }
        StringBuilder left = new StringBuilder();
        for (int i = 0; i < named.length; i++) if (!named[i]) left.append(text.charAt(i));
        Check.is(part + " has no test for: " + left, !Pattern.compile("\\w").matcher(left).find());
    }

    /** What says(..) tells in the tests' sources. */
    private static List<Said> said() throws Exception {
        List<Said> said = new ArrayList<>();
        Pattern call = Pattern.compile("says\\(\"([^\"]*)\",\\s*\"((?:[^\"\\\\]|\\\\.)*)\"\\)");
        try (Stream<Path> files = Files.list(Path.of("src/test/java"))) {
            for (Path file : files.filter(f -> f.toString().endsWith("Test.java")).sorted().toList()) {
                Matcher m = call.matcher(Files.readString(file, StandardCharsets.UTF_8));
                while (m.find()) said.add(new Said(m.group(1), m.group(2).replace("\\\"", "\"")));
            }
        }
        return said;
    }
}
